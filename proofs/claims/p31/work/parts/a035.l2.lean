theorem hd_yX1_keepNumber_RX1 : yX1_keepNumber.cls = RX1 ∧ yX1_keepNumber.cls ≠ "java/lang/invoke/MethodHandle" ∧ yX1_keepNumber.cls ≠ "java/lang/invoke/VarHandle" ∧ (parseMethodDescriptor yX1_keepNumber.desc).map (fun d => d.parameters.length) = some 4 := by decide +kernel
theorem hd_yX10_stretchWay_RX10 : yX10_stretchWay.cls = RX10 ∧ yX10_stretchWay.cls ≠ "java/lang/invoke/MethodHandle" ∧ yX10_stretchWay.cls ≠ "java/lang/invoke/VarHandle" ∧ (parseMethodDescriptor yX10_stretchWay.desc).map (fun d => d.parameters.length) = some 3 := by decide +kernel
theorem hd_yX1_clearWay_RX1 : yX1_clearWay.cls = RX1 ∧ yX1_clearWay.cls ≠ "java/lang/invoke/MethodHandle" ∧ yX1_clearWay.cls ≠ "java/lang/invoke/VarHandle" ∧ (parseMethodDescriptor yX1_clearWay.desc).map (fun d => d.parameters.length) = some 2 := by decide +kernel
theorem hd_yX10_scaled_RX10 : yX10_scaled.cls = RX10 ∧ yX10_scaled.cls ≠ "java/lang/invoke/MethodHandle" ∧ yX10_scaled.cls ≠ "java/lang/invoke/VarHandle" ∧ (parseMethodDescriptor yX10_scaled.desc).map (fun d => d.parameters.length) = some 4 := by decide +kernel
theorem hd_yX1_keepRight_RX1 : yX1_keepRight.cls = RX1 ∧ yX1_keepRight.cls ≠ "java/lang/invoke/MethodHandle" ∧ yX1_keepRight.cls ≠ "java/lang/invoke/VarHandle" ∧ (parseMethodDescriptor yX1_keepRight.desc).map (fun d => d.parameters.length) = some 4 := by decide +kernel
theorem hd_yX10_leaveDifference_RX10 : yX10_leaveDifference.cls = RX10 ∧ yX10_leaveDifference.cls ≠ "java/lang/invoke/MethodHandle" ∧ yX10_leaveDifference.cls ≠ "java/lang/invoke/VarHandle" ∧ (parseMethodDescriptor yX10_leaveDifference.desc).map (fun d => d.parameters.length) = some 1 := by decide +kernel
theorem hd_yX10_members_RX10 : yX10_members.cls = RX10 ∧ yX10_members.cls ≠ "java/lang/invoke/MethodHandle" ∧ yX10_members.cls ≠ "java/lang/invoke/VarHandle" ∧ (parseMethodDescriptor yX10_members.desc).map (fun d => d.parameters.length) = some 2 := by decide +kernel
theorem dX10_signOf_0 : decode cX10_signOf 0 = .ok (.iload_n 0, 1) := dk_26 (by decide +kernel)
theorem dX10_signOf_1 : decode cX10_signOf 1 = .ok (.sipush 301, 3) := dk_17 (by decide +kernel)
theorem dX10_signOf_4 : decode cX10_signOf 4 = .ok (.if_icmp .ne 7, 3) := dk_160 (by decide +kernel)
theorem dX10_signOf_7 : decode cX10_signOf 7 = .ok (.iconst 0, 1) := dk_3 (by decide +kernel)
theorem dX10_signOf_8 : decode cX10_signOf 8 = .ok (.goto 15, 3) := dk_167 (by decide +kernel)
theorem dX10_signOf_11 : decode cX10_signOf 11 = .ok (.iload_n 0, 1) := dk_26 (by decide +kernel)
theorem dX10_signOf_12 : decode cX10_signOf 12 = .ok (.sipush 302, 3) := dk_17 (by decide +kernel)
theorem dX10_signOf_15 : decode cX10_signOf 15 = .ok (.if_icmp .ne 7, 3) := dk_160 (by decide +kernel)
theorem dX10_signOf_18 : decode cX10_signOf 18 = .ok (.iconst 1, 1) := dk_4 (by decide +kernel)
theorem dX10_signOf_19 : decode cX10_signOf 19 = .ok (.goto 4, 3) := dk_167 (by decide +kernel)
theorem dX10_signOf_22 : decode cX10_signOf 22 = .ok (.iconst 2, 1) := dk_5 (by decide +kernel)
theorem dX10_signOf_23 : decode cX10_signOf 23 = .ok (.ireturn, 1) := dk_172 (by decide +kernel)
def wsMX10_signOf : List Cond := .code yX10_signOf cX10_signOf 1 (some .int) :: ([])
theorem gdwsMX10_signOf : wsMX10_signOf.all goodWord = true := gdC rfl (by decide +kernel : ([] : List Cond).all goodWord = true)
set_option maxHeartbeats 4000000 in
set_option maxRecDepth 100000 in
/-- the sign of a mark -/
theorem m_X10_signOf (l : Launch) (dC : Nat → ClassId) (dI : Nat → Nat → Nat) (p1 : Int32) (sz : Nat) : Met l yX10_signOf wsMX10_signOf ({ frames := 0, cells := 0, slots := 0, locals := 0 }) (va_Pc [.int p1] (fun U => U.heap.size = sz ∧ va_P (dC, dI) vwCl [] U.heap ∧ va_K (dC, dI) vwCl [] U ∧ va_D (fun _ => True) [])) (va_Qi (fun (r : Int32) (u : Unit) => (0 ≤ r.toInt ∧ r.toInt ≤ 2)) (fun (u : Unit) t => True) (va_A [] sz)) 0 0 (va_A [] sz) := by
  refine Met.ofW (cc := cX10_signOf) (maxL := 1) (ret := (some .int)) (by decide) rfl ?_
  intro p e s m args below meth c s₁ B hml hv
  obtain ⟨rfl, hsz, hP, hK, hD0⟩ := hv
  have hx := B.exec
  have hb := B.bytes
  have hr := B.returns
  have hts := atoms_spec (ws := wsMX10_signOf) B.pre
  have hown : s.vm.findClass RX10 = some m.cls := findClass_of_methodNamed B.named
  have hlocks := B.notSynchronized
  subst hsz
  have hD := hD0.self (sz := s.heap.size)
  generalize hAe : va_A [] s.heap.size = A at hD ⊢
  have hA : ∀ q : Nat, s.heap.size ≤ q → A q := fun q h => by rw [← hAe]; exact Or.inr h
  have hS : va_S A s.heap s.heap [] := va_S.rf
  have hl := lv_entry ([.int p1]) (n := 1) (Nat.le_of_ble_eq_true rfl)
  rw [lg_entry_eq]
  generalize (lg_sl ([.int p1]) ++ List.replicate (1 - (lg_sl ([.int p1])).length) Slot.unset).toArray = ls at hl ⊢
  have hl : lv_has ls 1 [(0, .int p1)] := hl
  refine lv_iload_n hx hb dX10_signOf_0 rfl (lv_at hl 0 rfl) ?_
  refine lv_sipush (v := 301) hx hb dX10_signOf_1 (by decide) ?_
  refine W.cut (pc := 23) (fun H locs ls stk => ∃ (k0_j2 : Int32), (0 ≤ k0_j2.toInt ∧ k0_j2.toInt ≤ 2) ∧  stk = [.int k0_j2] ∧ va_P (dC, dI) vwCl ([]) H ∧ va_D A ([]) ∧ va_S A s.heap H locs ∧ lv_has ls 1 [(0, .int p1)]) (fun join2 => ?_) ?_
  · refine lv_icmp_ne (tgt := 11) hx hb dX10_signOf_4 (by decide) (fun c_4 => ?_) (fun c_4 => ?_)
    · have t_4 : p1.toInt ≠ 301 := toI_ne c_4 rfl (by decide : (301 : Int32).toInt = 301)
      refine lv_iload_n hx hb dX10_signOf_11 rfl (lv_at hl 0 rfl) ?_
      refine lv_sipush (v := 302) hx hb dX10_signOf_12 (by decide) ?_
      refine lv_icmp_ne (tgt := 22) hx hb dX10_signOf_15 (by decide) (fun c_15 => ?_) (fun c_15 => ?_)
      · have t_15 : p1.toInt ≠ 302 := toI_ne c_15 rfl (by decide : (302 : Int32).toInt = 302)
        refine lv_iconst (v := 2) hx hb dX10_signOf_22 (by decide) ?_
        have hl : lv_has _ _ ([(0, .int p1)]) := lv_sub hl [0] rfl
        exact join2 _ _ _ _ ⟨2, (show 0 ≤ (2 : Int32).toInt ∧ (2 : Int32).toInt ≤ 2 from by decide), rfl, hP, hD, hS, hl⟩
      · have t_15 : p1.toInt = 302 := toI_nne c_15 rfl (by decide : (302 : Int32).toInt = 302)
        refine lv_iconst (v := 1) hx hb dX10_signOf_18 (by decide) ?_
        refine lv_goto (tgt := 23) hx hb dX10_signOf_19 (by decide) ?_
        have hl : lv_has _ _ ([(0, .int p1)]) := lv_sub hl [0] rfl
        exact join2 _ _ _ _ ⟨1, (show 0 ≤ (1 : Int32).toInt ∧ (1 : Int32).toInt ≤ 2 from by decide), rfl, hP, hD, hS, hl⟩
    · have t_4 : p1.toInt = 301 := toI_nne c_4 rfl (by decide : (301 : Int32).toInt = 301)
      refine lv_iconst (v := 0) hx hb dX10_signOf_7 (by decide) ?_
      refine lv_goto (tgt := 23) hx hb dX10_signOf_8 (by decide) ?_
      have hl : lv_has _ _ ([(0, .int p1)]) := lv_sub hl [0] rfl
      exact join2 _ _ _ _ ⟨0, (show 0 ≤ (0 : Int32).toInt ∧ (0 : Int32).toInt ≤ 2 from by decide), rfl, hP, hD, hS, hl⟩
  · rintro H locs ls stk ⟨k0_j2, b_k0_j2, rfl, hP, hD, hS, hl⟩
    refine W.widen (k := 0) (n := 0) (by decide +kernel) (by decide +kernel) ?_
    exact W.iret (v := k0_j2) hx hb hr (fun t9_ ht hW => ⟨⟨k0_j2, (), rfl, (b_k0_j2), trivial⟩, hS.F ht⟩) hS.2.2 dX10_signOf_23
theorem dX10_leaveDifference_0 : decode cX10_leaveDifference 0 = .ok (.aload_n 0, 1) := dk_42 (by decide +kernel)
theorem dX10_leaveDifference_1 : decode cX10_leaveDifference 1 = .ok (.getfield 36, 3) := dk_180 (by decide +kernel)
theorem dX10_leaveDifference_4 : decode cX10_leaveDifference 4 = .ok (.iload_n 1, 1) := dk_27 (by decide +kernel)
theorem dX10_leaveDifference_5 : decode cX10_leaveDifference 5 = .ok (.laload, 1) := dk_47 (by decide +kernel)
theorem dX10_leaveDifference_6 : decode cX10_leaveDifference 6 = .ok (.aload_n 0, 1) := dk_42 (by decide +kernel)
theorem dX10_leaveDifference_7 : decode cX10_leaveDifference 7 = .ok (.getfield 39, 3) := dk_180 (by decide +kernel)
theorem dX10_leaveDifference_10 : decode cX10_leaveDifference 10 = .ok (.bipush 9, 2) := dk_16 (by decide +kernel)
theorem dX10_leaveDifference_12 : decode cX10_leaveDifference 12 = .ok (.iload_n 1, 1) := dk_27 (by decide +kernel)
theorem dX10_leaveDifference_13 : decode cX10_leaveDifference 13 = .ok (.iadd, 1) := dk_96 (by decide +kernel)
theorem dX10_leaveDifference_14 : decode cX10_leaveDifference 14 = .ok (.laload, 1) := dk_47 (by decide +kernel)
theorem dX10_leaveDifference_15 : decode cX10_leaveDifference 15 = .ok (.lmul, 1) := dk_105 (by decide +kernel)
theorem dX10_leaveDifference_16 : decode cX10_leaveDifference 16 = .ok (.aload_n 0, 1) := dk_42 (by decide +kernel)
theorem dX10_leaveDifference_17 : decode cX10_leaveDifference 17 = .ok (.getfield 36, 3) := dk_180 (by decide +kernel)
theorem dX10_leaveDifference_20 : decode cX10_leaveDifference 20 = .ok (.bipush 9, 2) := dk_16 (by decide +kernel)
theorem dX10_leaveDifference_22 : decode cX10_leaveDifference 22 = .ok (.iload_n 1, 1) := dk_27 (by decide +kernel)
theorem dX10_leaveDifference_23 : decode cX10_leaveDifference 23 = .ok (.iadd, 1) := dk_96 (by decide +kernel)
theorem dX10_leaveDifference_24 : decode cX10_leaveDifference 24 = .ok (.laload, 1) := dk_47 (by decide +kernel)
theorem dX10_leaveDifference_25 : decode cX10_leaveDifference 25 = .ok (.aload_n 0, 1) := dk_42 (by decide +kernel)
theorem dX10_leaveDifference_26 : decode cX10_leaveDifference 26 = .ok (.getfield 39, 3) := dk_180 (by decide +kernel)
theorem dX10_leaveDifference_29 : decode cX10_leaveDifference 29 = .ok (.iload_n 1, 1) := dk_27 (by decide +kernel)
theorem dX10_leaveDifference_30 : decode cX10_leaveDifference 30 = .ok (.laload, 1) := dk_47 (by decide +kernel)
theorem dX10_leaveDifference_31 : decode cX10_leaveDifference 31 = .ok (.lmul, 1) := dk_105 (by decide +kernel)
theorem dX10_leaveDifference_32 : decode cX10_leaveDifference 32 = .ok (.lsub, 1) := dk_101 (by decide +kernel)
theorem dX10_leaveDifference_33 : decode cX10_leaveDifference 33 = .ok (.lstore_n 2, 1) := dk_65 (by decide +kernel)
theorem dX10_leaveDifference_34 : decode cX10_leaveDifference 34 = .ok (.aload_n 0, 1) := dk_42 (by decide +kernel)
theorem dX10_leaveDifference_35 : decode cX10_leaveDifference 35 = .ok (.getfield 39, 3) := dk_180 (by decide +kernel)
theorem dX10_leaveDifference_38 : decode cX10_leaveDifference 38 = .ok (.iload_n 1, 1) := dk_27 (by decide +kernel)
theorem dX10_leaveDifference_39 : decode cX10_leaveDifference 39 = .ok (.laload, 1) := dk_47 (by decide +kernel)
theorem dX10_leaveDifference_40 : decode cX10_leaveDifference 40 = .ok (.aload_n 0, 1) := dk_42 (by decide +kernel)
theorem dX10_leaveDifference_41 : decode cX10_leaveDifference 41 = .ok (.getfield 39, 3) := dk_180 (by decide +kernel)
theorem dX10_leaveDifference_44 : decode cX10_leaveDifference 44 = .ok (.bipush 9, 2) := dk_16 (by decide +kernel)
theorem dX10_leaveDifference_46 : decode cX10_leaveDifference 46 = .ok (.iload_n 1, 1) := dk_27 (by decide +kernel)
theorem dX10_leaveDifference_47 : decode cX10_leaveDifference 47 = .ok (.iadd, 1) := dk_96 (by decide +kernel)
theorem dX10_leaveDifference_48 : decode cX10_leaveDifference 48 = .ok (.laload, 1) := dk_47 (by decide +kernel)
theorem dX10_leaveDifference_49 : decode cX10_leaveDifference 49 = .ok (.lmul, 1) := dk_105 (by decide +kernel)
theorem dX10_leaveDifference_50 : decode cX10_leaveDifference 50 = .ok (.lstore 4, 2) := dk_55 (by decide +kernel)
theorem dX10_leaveDifference_52 : decode cX10_leaveDifference 52 = .ok (.lload_n 2, 1) := dk_32 (by decide +kernel)
theorem dX10_leaveDifference_53 : decode cX10_leaveDifference 53 = .ok (.lload 4, 2) := dk_22 (by decide +kernel)
theorem dX10_leaveDifference_55 : decode cX10_leaveDifference 55 = .ok (.invokestatic 183, 3) := dk_184 (by decide +kernel)
theorem dX10_leaveDifference_58 : decode cX10_leaveDifference 58 = .ok (.lstore 6, 2) := dk_55 (by decide +kernel)
theorem dX10_leaveDifference_60 : decode cX10_leaveDifference 60 = .ok (.aload_n 0, 1) := dk_42 (by decide +kernel)
theorem dX10_leaveDifference_61 : decode cX10_leaveDifference 61 = .ok (.getfield 36, 3) := dk_180 (by decide +kernel)
theorem dX10_leaveDifference_64 : decode cX10_leaveDifference 64 = .ok (.iload_n 1, 1) := dk_27 (by decide +kernel)
theorem dX10_leaveDifference_65 : decode cX10_leaveDifference 65 = .ok (.lload_n 2, 1) := dk_32 (by decide +kernel)
theorem dX10_leaveDifference_66 : decode cX10_leaveDifference 66 = .ok (.lload 6, 2) := dk_22 (by decide +kernel)
theorem dX10_leaveDifference_68 : decode cX10_leaveDifference 68 = .ok (.ldiv, 1) := dk_109 (by decide +kernel)
theorem dX10_leaveDifference_69 : decode cX10_leaveDifference 69 = .ok (.lastore, 1) := dk_80 (by decide +kernel)
theorem dX10_leaveDifference_70 : decode cX10_leaveDifference 70 = .ok (.aload_n 0, 1) := dk_42 (by decide +kernel)
theorem dX10_leaveDifference_71 : decode cX10_leaveDifference 71 = .ok (.getfield 39, 3) := dk_180 (by decide +kernel)
theorem dX10_leaveDifference_74 : decode cX10_leaveDifference 74 = .ok (.iload_n 1, 1) := dk_27 (by decide +kernel)
theorem dX10_leaveDifference_75 : decode cX10_leaveDifference 75 = .ok (.lload 4, 2) := dk_22 (by decide +kernel)
theorem dX10_leaveDifference_77 : decode cX10_leaveDifference 77 = .ok (.lload 6, 2) := dk_22 (by decide +kernel)
theorem dX10_leaveDifference_79 : decode cX10_leaveDifference 79 = .ok (.ldiv, 1) := dk_109 (by decide +kernel)
theorem dX10_leaveDifference_80 : decode cX10_leaveDifference 80 = .ok (.lastore, 1) := dk_80 (by decide +kernel)
theorem dX10_leaveDifference_81 : decode cX10_leaveDifference 81 = .ok (.return_, 1) := dk_177 (by decide +kernel)
def wsMX10_leaveDifference : List Cond := .code yX10_leaveDifference cX10_leaveDifference 8 none :: ([.fieldLink RX10 36 "OptimaWorks$Worker" "over" "[J", .fieldLink RX10 39 "OptimaWorks$Worker" "under" "[J"] ++ wsX100 ++ (va_wsS RX10 183 yX10_divisor wsMX10_divisor))
theorem iwsMX10_leaveDifference_in10 : ∀ w ∈ wsX100, w ∈ wsMX10_leaveDifference := fun _ h => List.mem_cons_of_mem _ (List.mem_append_left _ (List.mem_append_right _ h))
theorem gwsMX10_leaveDifference_0 : GoodIn wsMX10_leaveDifference (va_wsS RX10 183 yX10_divisor wsMX10_divisor) := goodIn_sub (fun _ h => List.mem_cons_of_mem _ (List.mem_append_right _ h)) (gdS (by decide +kernel) gdwsMX10_divisor)
theorem gdwsMX10_leaveDifference : wsMX10_leaveDifference.all goodWord = true := gdC rfl (gdA (gdA (by decide +kernel : ([.fieldLink RX10 36 "OptimaWorks$Worker" "over" "[J", .fieldLink RX10 39 "OptimaWorks$Worker" "under" "[J"] : List Cond).all goodWord = true) gdwsX100) (gdS (by decide +kernel) gdwsMX10_divisor))
set_option maxHeartbeats 4000000 in
set_option maxRecDepth 100000 in
/-- the difference of two numbers -/
theorem m_X10_leaveDifference (l : Launch) (dC : Nat → ClassId) (dI : Nat → Nat → Nat) (hL : Nat → Nat) (aL : Nat → Nat) (kL : Nat → ClassId) (hT : Nat → Nat) (hM : Nat → Nat) (xL_tree : Value) (iL_names : Int32) (gL_key : Nat → Int64) (fL_kind : Nat → Int32) (fL_one : Nat → Int32) (fL_two : Nat → Int32) (fL_base : Nat → Int32) (iL_params : Int32) (fL_paramOver : Nat → Int32) (dL_paramOver : Nat) (nL_params : Nat) (fL_paramUnder : Nat → Int32) (dL_paramUnder : Nat) (nL_pu : Nat) (gL_over : Nat → Int64) (gL_under : Nat → Int64) (fL_bound : Nat → Int32) (iL_nameAt : Int32) (iL_startAt : Int32) (iL_steps : Int32) (jL_scaleOver : Int64) (jL_scaleUnder : Int64) (p1 : Int32) (b_iL_names : 0 ≤ iL_names.toInt ∧ iL_names.toInt ≤ 40) (b_fL_kind : ∀ q : Nat, 0 ≤ (fL_kind q).toInt ∧ (fL_kind q).toInt ≤ 5) (b_fL_two : ∀ q : Nat, (-1) ≤ (fL_two q).toInt ∧ (fL_two q).toInt ≤ 39) (b_fL_base : ∀ q : Nat, 0 ≤ (fL_base q).toInt ∧ (fL_base q).toInt ≤ 2560) (b_iL_params : 0 ≤ iL_params.toInt ∧ iL_params.toInt ≤ 2560) (b_nL_params : 0 ≤ nL_params ∧ nL_params ≤ 2560) (b_nm : NmL iL_names fL_kind fL_one fL_two fL_base nL_params) (b_pm : iL_params.toInt ≤ ((nL_params : Nat) : Int)) (b_pu : nL_pu = nL_params) (b_p1 : 0 ≤ p1.toInt ∧ p1.toInt ≤ 8) (sz : Nat) : Met l yX10_leaveDifference wsMX10_leaveDifference ({ frames := 2, cells := 0, slots := 0, locals := 43 }) (va_Pc [.ref (hL 0), .int p1] (fun U => U.heap.size = sz ∧ va_P (dC, dI) vwCl (WL hL aL kL hT hM xL_tree iL_names gL_key fL_kind fL_one fL_two fL_base iL_params fL_paramOver dL_paramOver nL_params fL_paramUnder dL_paramUnder nL_pu gL_over gL_under fL_bound iL_nameAt iL_startAt iL_steps jL_scaleOver jL_scaleUnder) U.heap ∧ va_K (dC, dI) vwCl (tL kL) U ∧ va_D (fun _ => True) (WL hL aL kL hT hM xL_tree iL_names gL_key fL_kind fL_one fL_two fL_base iL_params fL_paramOver dL_paramOver nL_params fL_paramUnder dL_paramUnder nL_pu gL_over gL_under fL_bound iL_nameAt iL_startAt iL_steps jL_scaleOver jL_scaleUnder))) (va_Qv (fun (u : (Nat → Int64) × (Nat → Int64)) => True) (fun (u : (Nat → Int64) × (Nat → Int64)) t => va_P (dC, dI) vwCl (WL hL aL kL hT hM xL_tree iL_names gL_key fL_kind fL_one fL_two fL_base iL_params fL_paramOver dL_paramOver nL_params fL_paramUnder dL_paramUnder nL_pu (u.1) (u.2) fL_bound iL_nameAt iL_startAt iL_steps jL_scaleOver jL_scaleUnder) t.heap ∧ va_D (va_A (WL hL aL kL hT hM xL_tree iL_names gL_key fL_kind fL_one fL_two fL_base iL_params fL_paramOver dL_paramOver nL_params fL_paramUnder dL_paramUnder nL_pu gL_over gL_under fL_bound iL_nameAt iL_startAt iL_steps jL_scaleOver jL_scaleUnder) sz) (WL hL aL kL hT hM xL_tree iL_names gL_key fL_kind fL_one fL_two fL_base iL_params fL_paramOver dL_paramOver nL_params fL_paramUnder dL_paramUnder nL_pu (u.1) (u.2) fL_bound iL_nameAt iL_startAt iL_steps jL_scaleOver jL_scaleUnder)) (va_A (WL hL aL kL hT hM xL_tree iL_names gL_key fL_kind fL_one fL_two fL_base iL_params fL_paramOver dL_paramOver nL_params fL_paramUnder dL_paramUnder nL_pu gL_over gL_under fL_bound iL_nameAt iL_startAt iL_steps jL_scaleOver jL_scaleUnder) sz)) 0 0 (va_A (WL hL aL kL hT hM xL_tree iL_names gL_key fL_kind fL_one fL_two fL_base iL_params fL_paramOver dL_paramOver nL_params fL_paramUnder dL_paramUnder nL_pu gL_over gL_under fL_bound iL_nameAt iL_startAt iL_steps jL_scaleOver jL_scaleUnder) sz) := by
  refine Met.ofW (cc := cX10_leaveDifference) (maxL := 8) (ret := none) (by decide) rfl ?_
  intro p e s m args below meth c s₁ B hml hv
  obtain ⟨rfl, hsz, hP, hK, hD0⟩ := hv
  have hx := B.exec
  have hb := B.bytes
  have hr := B.returns
  have hts := atoms_spec (ws := wsMX10_leaveDifference) B.pre
  have hown : s.vm.findClass RX10 = some m.cls := findClass_of_methodNamed B.named
  have hlocks := B.notSynchronized
  subst hsz
  have hD := hD0.self (sz := s.heap.size)
  generalize hAe : va_A (WL hL aL kL hT hM xL_tree iL_names gL_key fL_kind fL_one fL_two fL_base iL_params fL_paramOver dL_paramOver nL_params fL_paramUnder dL_paramUnder nL_pu gL_over gL_under fL_bound iL_nameAt iL_startAt iL_steps jL_scaleOver jL_scaleUnder) s.heap.size = A at hD ⊢
  have hA : ∀ q : Nat, s.heap.size ≤ q → A q := fun q h => by rw [← hAe]; exact Or.inr h
  have hS : va_S A s.heap s.heap [] := va_S.rf
  have hl := lv_entry ([.ref (hL 0), .int p1]) (n := 8) (Nat.le_of_ble_eq_true rfl)
  rw [lg_entry_eq]
  generalize (lg_sl ([.ref (hL 0), .int p1]) ++ List.replicate (8 - (lg_sl ([.ref (hL 0), .int p1])).length) Slot.unset).toArray = ls at hl ⊢
  have hl : lv_has ls 8 [(0, .ref (hL 0)), (1, .int p1)] := hl
  refine lv_aload_n hx hb dX10_leaveDifference_0 rfl (lv_at hl 0 rfl) ?_
  refine va_get (D := (dC, dI)) (ci := 10) (v := .ref (aL 7)) (C := RX10) (T := TX10) (N := 20) hx hb hts iwsMX10_leaveDifference_in10 hown hK hP 0 rfl rfl 12 (by decide) (hts (.fieldLink RX10 36 "OptimaWorks$Worker" "over" "[J") (by decide +kernel)) (fun _ h9 => h9) rfl dX10_leaveDifference_1 ?_
  refine lv_iload_n hx hb dX10_leaveDifference_4 rfl (lv_at hl 1 rfl) ?_
  refine va_lald (cA := kL 7) (n := 360) (f := gL_over) hx hb hK hP 8 7 rfl rfl (vp_in_iff.mpr ⟨b_p1.1, (Int.lt_of_le_of_lt (b_p1.2) (by decide))⟩) dX10_leaveDifference_5 ?_
  refine lv_topl (fun v1 hv1 => ?_)
  clear hv1
  refine lv_aload_n hx hb dX10_leaveDifference_6 rfl (lv_at hl 0 rfl) ?_
  refine va_get (D := (dC, dI)) (ci := 10) (v := .ref (aL 8)) (C := RX10) (T := TX10) (N := 20) hx hb hts iwsMX10_leaveDifference_in10 hown hK hP 0 rfl rfl 13 (by decide) (hts (.fieldLink RX10 39 "OptimaWorks$Worker" "under" "[J") (by decide +kernel)) (fun _ h9 => h9) rfl dX10_leaveDifference_7 ?_
  refine lv_bipush (v := 9) hx hb dX10_leaveDifference_10 (by decide) ?_
  refine lv_iload_n hx hb dX10_leaveDifference_12 rfl (lv_at hl 1 rfl) ?_
  refine lv_iadd hx hb dX10_leaveDifference_13 ?_
  refine lv_topi (fun y2 hy2 => ?_)
  obtain rfl : (iI (9 + p1.toInt)) = y2 := (hy2.trans (iI_add2 (by decide : (9 : Int32) = iI 9) (iI_of _))).symm
  refine va_lald (cA := kL 8) (n := 360) (f := gL_under) hx hb hK hP 9 8 rfl rfl (vp_iI (Int.le_trans (by decide) (Int.add_le_add (Int.le_refl _) (b_p1.1))) (Int.lt_of_le_of_lt (Int.add_le_add (Int.le_refl _) (b_p1.2)) (by decide)) (by decide)) dX10_leaveDifference_14 ?_
  refine lv_topl (fun v3 hv3 => ?_)
  clear hv3
  refine lv_lmul hx hb dX10_leaveDifference_15 ?_
  refine lv_topl (fun v4 hv4 => ?_)
  clear hv4
  refine lv_aload_n hx hb dX10_leaveDifference_16 rfl (lv_at hl 0 rfl) ?_
  refine va_get (D := (dC, dI)) (ci := 10) (v := .ref (aL 7)) (C := RX10) (T := TX10) (N := 20) hx hb hts iwsMX10_leaveDifference_in10 hown hK hP 0 rfl rfl 12 (by decide) (hts (.fieldLink RX10 36 "OptimaWorks$Worker" "over" "[J") (by decide +kernel)) (fun _ h9 => h9) rfl dX10_leaveDifference_17 ?_
  refine lv_bipush (v := 9) hx hb dX10_leaveDifference_20 (by decide) ?_
  refine lv_iload_n hx hb dX10_leaveDifference_22 rfl (lv_at hl 1 rfl) ?_
  refine lv_iadd hx hb dX10_leaveDifference_23 ?_
  refine lv_topi (fun y5 hy5 => ?_)
  obtain rfl : (iI (9 + p1.toInt)) = y5 := (hy5.trans (iI_add2 (by decide : (9 : Int32) = iI 9) (iI_of _))).symm
  refine va_lald (cA := kL 7) (n := 360) (f := gL_over) hx hb hK hP 8 7 rfl rfl (vp_iI (Int.le_trans (by decide) (Int.add_le_add (Int.le_refl _) (b_p1.1))) (Int.lt_of_le_of_lt (Int.add_le_add (Int.le_refl _) (b_p1.2)) (by decide)) (by decide)) dX10_leaveDifference_24 ?_
  refine lv_topl (fun v6 hv6 => ?_)
  clear hv6
  refine lv_aload_n hx hb dX10_leaveDifference_25 rfl (lv_at hl 0 rfl) ?_
  refine va_get (D := (dC, dI)) (ci := 10) (v := .ref (aL 8)) (C := RX10) (T := TX10) (N := 20) hx hb hts iwsMX10_leaveDifference_in10 hown hK hP 0 rfl rfl 13 (by decide) (hts (.fieldLink RX10 39 "OptimaWorks$Worker" "under" "[J") (by decide +kernel)) (fun _ h9 => h9) rfl dX10_leaveDifference_26 ?_
  refine lv_iload_n hx hb dX10_leaveDifference_29 rfl (lv_at hl 1 rfl) ?_
  refine va_lald (cA := kL 8) (n := 360) (f := gL_under) hx hb hK hP 9 8 rfl rfl (vp_in_iff.mpr ⟨b_p1.1, (Int.lt_of_le_of_lt (b_p1.2) (by decide))⟩) dX10_leaveDifference_30 ?_
  refine lv_topl (fun v7 hv7 => ?_)
  clear hv7
  refine lv_lmul hx hb dX10_leaveDifference_31 ?_
  refine lv_topl (fun v8 hv8 => ?_)
  clear hv8
  refine lv_lsub hx hb dX10_leaveDifference_32 ?_
  refine lv_topl (fun v9 hv9 => ?_)
  clear hv9
  refine lv_lstore_n hx hb dX10_leaveDifference_33 rfl hl (by decide) rfl (fun ls (hl : lv_has ls _ ([(2, .long v9), (0, .ref (hL 0)), (1, .int p1)])) => ?_)
  refine lv_aload_n hx hb dX10_leaveDifference_34 rfl (lv_at hl 1 rfl) ?_
  refine va_get (D := (dC, dI)) (ci := 10) (v := .ref (aL 8)) (C := RX10) (T := TX10) (N := 20) hx hb hts iwsMX10_leaveDifference_in10 hown hK hP 0 rfl rfl 13 (by decide) (hts (.fieldLink RX10 39 "OptimaWorks$Worker" "under" "[J") (by decide +kernel)) (fun _ h9 => h9) rfl dX10_leaveDifference_35 ?_
  refine lv_iload_n hx hb dX10_leaveDifference_38 rfl (lv_at hl 2 rfl) ?_
  refine va_lald (cA := kL 8) (n := 360) (f := gL_under) hx hb hK hP 9 8 rfl rfl (vp_in_iff.mpr ⟨b_p1.1, (Int.lt_of_le_of_lt (b_p1.2) (by decide))⟩) dX10_leaveDifference_39 ?_
  refine lv_topl (fun v10 hv10 => ?_)
  clear hv10
  refine lv_aload_n hx hb dX10_leaveDifference_40 rfl (lv_at hl 1 rfl) ?_
  refine va_get (D := (dC, dI)) (ci := 10) (v := .ref (aL 8)) (C := RX10) (T := TX10) (N := 20) hx hb hts iwsMX10_leaveDifference_in10 hown hK hP 0 rfl rfl 13 (by decide) (hts (.fieldLink RX10 39 "OptimaWorks$Worker" "under" "[J") (by decide +kernel)) (fun _ h9 => h9) rfl dX10_leaveDifference_41 ?_
  refine lv_bipush (v := 9) hx hb dX10_leaveDifference_44 (by decide) ?_
  refine lv_iload_n hx hb dX10_leaveDifference_46 rfl (lv_at hl 2 rfl) ?_
  refine lv_iadd hx hb dX10_leaveDifference_47 ?_
  refine lv_topi (fun y11 hy11 => ?_)
  obtain rfl : (iI (9 + p1.toInt)) = y11 := (hy11.trans (iI_add2 (by decide : (9 : Int32) = iI 9) (iI_of _))).symm
  refine va_lald (cA := kL 8) (n := 360) (f := gL_under) hx hb hK hP 9 8 rfl rfl (vp_iI (Int.le_trans (by decide) (Int.add_le_add (Int.le_refl _) (b_p1.1))) (Int.lt_of_le_of_lt (Int.add_le_add (Int.le_refl _) (b_p1.2)) (by decide)) (by decide)) dX10_leaveDifference_48 ?_
  refine lv_topl (fun v12 hv12 => ?_)
  clear hv12
  refine lv_lmul hx hb dX10_leaveDifference_49 ?_
  refine lv_topl (fun v13 hv13 => ?_)
  clear hv13
  refine lv_lstore hx hb dX10_leaveDifference_50 hl (by decide) rfl (fun ls (hl : lv_has ls _ ([(4, .long v13), (2, .long v9), (0, .ref (hL 0)), (1, .int p1)])) => ?_)
  refine lv_lload_n hx hb dX10_leaveDifference_52 rfl (lv_at hl 1 rfl) ?_
  refine lv_lload hx hb dX10_leaveDifference_53 (lv_at hl 0 rfl) ?_
  have hFc := noneFree hS hA
  refine va_calll (va_runS (As := [.long v9, .long v13]) (rest := []) ⟨hx, hb, hml, hown, hts⟩ (m_X10_divisor l dC dI v9 v13 s.heap.size) (va_cwS 2 hts gwsMX10_leaveDifference_0 rfl rfl rfl (by decide +kernel) ⟨by decide +kernel, by decide +kernel⟩) ⟨fun a U g mk q => by obtain ⟨q0, q1, qP, qK, qD⟩ := q; exact ⟨q0, q1, qP, va_K.moved (u := U) (U := U.calling g mk a) (Vm.Alike.refl U.vm) qK, qD⟩, fun U hU9 hW => ⟨rfl, by rw [hU9], by rw [hU9]; exact nilP, va_K.moved hW.alike (hK.sub (tys' := []) [] rfl), nilD⟩⟩ rfl rfl hl.1 rfl (lv_room (Nat.le_of_ble_eq_true rfl)) dX10_leaveDifference_55 (by decide +kernel)) hS (fun q _ h => hFc q h) hFc (fun r14 u t9_ H1 locs ht hvm hw9 hB9 hz1 hk1 hS => ?_)
  have f14_0 := hw9
  try dsimp only at f14_0
  clear hB9
  have hP := keepAll hP hk1
  generalize H1 = H at hP hS ⊢
  have hP : va_P (dC, dI) vwCl (WL hL aL kL hT hM xL_tree iL_names gL_key fL_kind fL_one fL_two fL_base iL_params fL_paramOver dL_paramOver nL_params fL_paramUnder dL_paramUnder nL_pu gL_over gL_under fL_bound iL_nameAt iL_startAt iL_steps jL_scaleOver jL_scaleUnder) H := hP
  have hD : va_D A (WL hL aL kL hT hM xL_tree iL_names gL_key fL_kind fL_one fL_two fL_base iL_params fL_paramOver dL_paramOver nL_params fL_paramUnder dL_paramUnder nL_pu gL_over gL_under fL_bound iL_nameAt iL_startAt iL_steps jL_scaleOver jL_scaleUnder) := hD
  refine lv_lstore hx hb dX10_leaveDifference_58 hl (by decide) rfl (fun ls (hl : lv_has ls _ ([(6, .long r14), (4, .long v13), (2, .long v9), (0, .ref (hL 0)), (1, .int p1)])) => ?_)
  refine lv_aload_n hx hb dX10_leaveDifference_60 rfl (lv_at hl 3 rfl) ?_
  refine va_get (D := (dC, dI)) (ci := 10) (v := .ref (aL 7)) (C := RX10) (T := TX10) (N := 20) hx hb hts iwsMX10_leaveDifference_in10 hown hK hP 0 rfl rfl 12 (by decide) (hts (.fieldLink RX10 36 "OptimaWorks$Worker" "over" "[J") (by decide +kernel)) (fun _ h9 => h9) rfl dX10_leaveDifference_61 ?_
  refine lv_iload_n hx hb dX10_leaveDifference_64 rfl (lv_at hl 4 rfl) ?_
  refine lv_lload_n hx hb dX10_leaveDifference_65 rfl (lv_at hl 2 rfl) ?_
  refine lv_lload hx hb dX10_leaveDifference_66 (lv_at hl 0 rfl) ?_
  refine lv_ldiv hx hb dX10_leaveDifference_68 (nz_l (x := r14) rfl (by omega)) ?_
  refine lv_topl (fun v15 hv15 => ?_)
  clear hv15
  refine va_last (cA := kL 7) (n := 360) (f := gL_over) hx hb hK hP hD hS 8 7 rfl rfl (vp_in_iff.mpr ⟨b_p1.1, (Int.lt_of_le_of_lt (b_p1.2) (by decide))⟩) dX10_leaveDifference_69 (fun H locs hP hD hS => ?_)
  obtain ⟨u16, hu16⟩ : ∃ f9, f9 = vp_updL gL_over (p1).toNatClampNeg v15 := ⟨_, rfl⟩
  have hP : va_P (dC, dI) vwCl (WL hL aL kL hT hM xL_tree iL_names gL_key fL_kind fL_one fL_two fL_base iL_params fL_paramOver dL_paramOver nL_params fL_paramUnder dL_paramUnder nL_pu u16 gL_under fL_bound iL_nameAt iL_startAt iL_steps jL_scaleOver jL_scaleUnder) H := by rw [hu16]; exact hP
  have hD : va_D A (WL hL aL kL hT hM xL_tree iL_names gL_key fL_kind fL_one fL_two fL_base iL_params fL_paramOver dL_paramOver nL_params fL_paramUnder dL_paramUnder nL_pu u16 gL_under fL_bound iL_nameAt iL_startAt iL_steps jL_scaleOver jL_scaleUnder) := by rw [hu16]; exact hD
  clear hu16
  refine lv_aload_n hx hb dX10_leaveDifference_70 rfl (lv_at hl 3 rfl) ?_
  refine va_get (D := (dC, dI)) (ci := 10) (v := .ref (aL 8)) (C := RX10) (T := TX10) (N := 20) hx hb hts iwsMX10_leaveDifference_in10 hown hK hP 0 rfl rfl 13 (by decide) (hts (.fieldLink RX10 39 "OptimaWorks$Worker" "under" "[J") (by decide +kernel)) (fun _ h9 => h9) rfl dX10_leaveDifference_71 ?_
  refine lv_iload_n hx hb dX10_leaveDifference_74 rfl (lv_at hl 4 rfl) ?_
  refine lv_lload hx hb dX10_leaveDifference_75 (lv_at hl 1 rfl) ?_
  refine lv_lload hx hb dX10_leaveDifference_77 (lv_at hl 0 rfl) ?_
  refine lv_ldiv hx hb dX10_leaveDifference_79 (nz_l (x := r14) rfl (by omega)) ?_
  refine lv_topl (fun v17 hv17 => ?_)
  clear hv17
  refine va_last (cA := kL 8) (n := 360) (f := gL_under) hx hb hK hP hD hS 9 8 rfl rfl (vp_in_iff.mpr ⟨b_p1.1, (Int.lt_of_le_of_lt (b_p1.2) (by decide))⟩) dX10_leaveDifference_80 (fun H locs hP hD hS => ?_)
  obtain ⟨u18, hu18⟩ : ∃ f9, f9 = vp_updL gL_under (p1).toNatClampNeg v17 := ⟨_, rfl⟩
  have hP : va_P (dC, dI) vwCl (WL hL aL kL hT hM xL_tree iL_names gL_key fL_kind fL_one fL_two fL_base iL_params fL_paramOver dL_paramOver nL_params fL_paramUnder dL_paramUnder nL_pu u16 u18 fL_bound iL_nameAt iL_startAt iL_steps jL_scaleOver jL_scaleUnder) H := by rw [hu18]; exact hP
  have hD : va_D A (WL hL aL kL hT hM xL_tree iL_names gL_key fL_kind fL_one fL_two fL_base iL_params fL_paramOver dL_paramOver nL_params fL_paramUnder dL_paramUnder nL_pu u16 u18 fL_bound iL_nameAt iL_startAt iL_steps jL_scaleOver jL_scaleUnder) := by rw [hu18]; exact hD
  clear hu18
  refine W.widen (k := 0) (n := 0) (by decide +kernel) (by decide +kernel) ?_
  exact W.vret hx hb hr (fun t9_ ht hW => ⟨⟨(u16, u18), rfl, trivial, by rw [ht]; exact hP, hD⟩, hS.F ht⟩) hS.2.2 dX10_leaveDifference_81
theorem dX10_product_0 : decode cX10_product 0 = .ok (.lload_n 0, 1) := dk_30 (by decide +kernel)
theorem dX10_product_1 : decode cX10_product 1 = .ok (.iload 4, 2) := dk_21 (by decide +kernel)
theorem dX10_product_3 : decode cX10_product 3 = .ok (.i2l, 1) := dk_133 (by decide +kernel)
theorem dX10_product_4 : decode cX10_product 4 = .ok (.lcmp, 1) := dk_148 (by decide +kernel)
theorem dX10_product_5 : decode cX10_product 5 = .ok (.ifCond .gt 21, 3) := dk_157 (by decide +kernel)
theorem dX10_product_8 : decode cX10_product 8 = .ok (.lload_n 2, 1) := dk_32 (by decide +kernel)
theorem dX10_product_9 : decode cX10_product 9 = .ok (.iload 4, 2) := dk_21 (by decide +kernel)
theorem dX10_product_11 : decode cX10_product 11 = .ok (.i2l, 1) := dk_133 (by decide +kernel)
theorem dX10_product_12 : decode cX10_product 12 = .ok (.lcmp, 1) := dk_148 (by decide +kernel)
theorem dX10_product_13 : decode cX10_product 13 = .ok (.ifCond .gt 13, 3) := dk_157 (by decide +kernel)
theorem dX10_product_16 : decode cX10_product 16 = .ok (.lload_n 0, 1) := dk_30 (by decide +kernel)
theorem dX10_product_17 : decode cX10_product 17 = .ok (.lload_n 2, 1) := dk_32 (by decide +kernel)
theorem dX10_product_18 : decode cX10_product 18 = .ok (.lmul, 1) := dk_105 (by decide +kernel)
theorem dX10_product_19 : decode cX10_product 19 = .ok (.iload 4, 2) := dk_21 (by decide +kernel)
theorem dX10_product_21 : decode cX10_product 21 = .ok (.i2l, 1) := dk_133 (by decide +kernel)
theorem dX10_product_22 : decode cX10_product 22 = .ok (.lcmp, 1) := dk_148 (by decide +kernel)
theorem dX10_product_23 : decode cX10_product 23 = .ok (.ifCond .le 10, 3) := dk_158 (by decide +kernel)
theorem dX10_product_26 : decode cX10_product 26 = .ok (.iload 4, 2) := dk_21 (by decide +kernel)
theorem dX10_product_28 : decode cX10_product 28 = .ok (.iconst 1, 1) := dk_4 (by decide +kernel)
theorem dX10_product_29 : decode cX10_product 29 = .ok (.iadd, 1) := dk_96 (by decide +kernel)
theorem dX10_product_30 : decode cX10_product 30 = .ok (.goto 7, 3) := dk_167 (by decide +kernel)
theorem dX10_product_33 : decode cX10_product 33 = .ok (.lload_n 0, 1) := dk_30 (by decide +kernel)
theorem dX10_product_34 : decode cX10_product 34 = .ok (.lload_n 2, 1) := dk_32 (by decide +kernel)
theorem dX10_product_35 : decode cX10_product 35 = .ok (.lmul, 1) := dk_105 (by decide +kernel)
theorem dX10_product_36 : decode cX10_product 36 = .ok (.l2i, 1) := dk_136 (by decide +kernel)
theorem dX10_product_37 : decode cX10_product 37 = .ok (.ireturn, 1) := dk_172 (by decide +kernel)
def wsMX10_product : List Cond := .code yX10_product cX10_product 5 (some .int) :: ([])
theorem gdwsMX10_product : wsMX10_product.all goodWord = true := gdC rfl (by decide +kernel : ([] : List Cond).all goodWord = true)
set_option maxHeartbeats 4000000 in
set_option maxRecDepth 100000 in
/-- a product within a limit -/
theorem m_X10_product (l : Launch) (dC : Nat → ClassId) (dI : Nat → Nat → Nat) (p1 : Int64) (p2 : Int64) (p3 : Int32) (sz : Nat) : Met l yX10_product wsMX10_product ({ frames := 0, cells := 0, slots := 0, locals := 0 }) (va_Pc [.long p1, .long p2, .int p3] (fun U => U.heap.size = sz ∧ va_P (dC, dI) vwCl [] U.heap ∧ va_K (dC, dI) vwCl [] U ∧ va_D (fun _ => True) [])) (va_Qi (fun (r : Int32) (u : Unit) => True) (fun (u : Unit) t => True) (va_A [] sz)) 0 0 (va_A [] sz) := by
  refine Met.ofW (cc := cX10_product) (maxL := 5) (ret := (some .int)) (by decide) rfl ?_
  intro p e s m args below meth c s₁ B hml hv
  obtain ⟨rfl, hsz, hP, hK, hD0⟩ := hv
  have hx := B.exec
  have hb := B.bytes
  have hr := B.returns
  have hts := atoms_spec (ws := wsMX10_product) B.pre
  have hown : s.vm.findClass RX10 = some m.cls := findClass_of_methodNamed B.named
  have hlocks := B.notSynchronized
  subst hsz
  have hD := hD0.self (sz := s.heap.size)
  generalize hAe : va_A [] s.heap.size = A at hD ⊢
  have hA : ∀ q : Nat, s.heap.size ≤ q → A q := fun q h => by rw [← hAe]; exact Or.inr h
  have hS : va_S A s.heap s.heap [] := va_S.rf
  have hl := lv_entry ([.long p1, .long p2, .int p3]) (n := 5) (Nat.le_of_ble_eq_true rfl)
  rw [lg_entry_eq]
  generalize (lg_sl ([.long p1, .long p2, .int p3]) ++ List.replicate (5 - (lg_sl ([.long p1, .long p2, .int p3])).length) Slot.unset).toArray = ls at hl ⊢
  have hl : lv_has ls 5 [(0, .long p1), (2, .long p2), (4, .int p3)] := hl
  refine lv_lload_n hx hb dX10_product_0 rfl (lv_at hl 0 rfl) ?_
  refine lv_iload hx hb dX10_product_1 (lv_at hl 2 rfl) ?_
  refine lv_i2l hx hb dX10_product_3 rfl ?_
  refine lv_topl (fun v1 hv1 => ?_)
  clear hv1
  refine W.lcmp hx hb dX10_product_4 ?_
  refine W.cut (pc := 37) (fun H locs ls stk => ∃ (k0_j2 : Int32),  stk = [.int k0_j2] ∧ va_P (dC, dI) vwCl ([]) H ∧ va_D A ([]) ∧ va_S A s.heap H locs ∧ lv_has ls 5 [(0, .long p1), (2, .long p2), (4, .int p3)]) (fun join2 => ?_) ?_
  · refine lv_if_gt (tgt := 26) hx hb dX10_product_5 (by decide) (fun c_5 => ?_) (fun c_5 => ?_)
    · have t_5 : p1.toInt > v1.toInt := toL_gt c_5 rfl rfl
      refine lv_iload hx hb dX10_product_26 (lv_at hl 2 rfl) ?_
      refine lv_iconst (v := 1) hx hb dX10_product_28 (by decide) ?_
      refine lv_iadd hx hb dX10_product_29 ?_
      refine lv_topi (fun y10 hy10 => ?_)
      obtain rfl : (iI (p3.toInt + 1)) = y10 := (hy10.trans (iI_add2 (iI_of _) (by decide : (1 : Int32) = iI 1))).symm
      refine lv_goto (tgt := 37) hx hb dX10_product_30 (by decide) ?_
      have hl : lv_has _ _ ([(0, .long p1), (2, .long p2), (4, .int p3)]) := lv_sub hl [0, 1, 2] rfl
      exact join2 _ _ _ _ ⟨(iI (p3.toInt + 1)), rfl, hP, hD, hS, hl⟩
    · have t_5 : ¬ p1.toInt > v1.toInt := toL_ngt c_5 rfl rfl
      refine lv_lload_n hx hb dX10_product_8 rfl (lv_at hl 1 rfl) ?_
      refine lv_iload hx hb dX10_product_9 (lv_at hl 2 rfl) ?_
      refine lv_i2l hx hb dX10_product_11 rfl ?_
      refine lv_topl (fun v11 hv11 => ?_)
      clear hv11
      refine W.lcmp hx hb dX10_product_12 ?_
      refine lv_if_gt (tgt := 26) hx hb dX10_product_13 (by decide) (fun c_13 => ?_) (fun c_13 => ?_)
      · have t_13 : p2.toInt > v11.toInt := toL_gt c_13 rfl rfl
        refine lv_iload hx hb dX10_product_26 (lv_at hl 2 rfl) ?_
        refine lv_iconst (v := 1) hx hb dX10_product_28 (by decide) ?_
        refine lv_iadd hx hb dX10_product_29 ?_
        refine lv_topi (fun y12 hy12 => ?_)
        obtain rfl : (iI (p3.toInt + 1)) = y12 := (hy12.trans (iI_add2 (iI_of _) (by decide : (1 : Int32) = iI 1))).symm
        refine lv_goto (tgt := 37) hx hb dX10_product_30 (by decide) ?_
        have hl : lv_has _ _ ([(0, .long p1), (2, .long p2), (4, .int p3)]) := lv_sub hl [0, 1, 2] rfl
        exact join2 _ _ _ _ ⟨(iI (p3.toInt + 1)), rfl, hP, hD, hS, hl⟩
      · have t_13 : ¬ p2.toInt > v11.toInt := toL_ngt c_13 rfl rfl
        refine lv_lload_n hx hb dX10_product_16 rfl (lv_at hl 0 rfl) ?_
        refine lv_lload_n hx hb dX10_product_17 rfl (lv_at hl 1 rfl) ?_
        refine lv_lmul hx hb dX10_product_18 ?_
        refine lv_topl (fun v13 hv13 => ?_)
        clear hv13
        refine lv_iload hx hb dX10_product_19 (lv_at hl 2 rfl) ?_
        refine lv_i2l hx hb dX10_product_21 rfl ?_
        refine lv_topl (fun v14 hv14 => ?_)
        clear hv14
        refine W.lcmp hx hb dX10_product_22 ?_
        refine lv_if_le (tgt := 33) hx hb dX10_product_23 (by decide) (fun c_23 => ?_) (fun c_23 => ?_)
        · have t_23 : v13.toInt ≤ v14.toInt := toL_le c_23 rfl rfl
          refine lv_lload_n hx hb dX10_product_33 rfl (lv_at hl 0 rfl) ?_
          refine lv_lload_n hx hb dX10_product_34 rfl (lv_at hl 1 rfl) ?_
          refine lv_lmul hx hb dX10_product_35 ?_
          refine lv_topl (fun v15 hv15 => ?_)
          clear hv15
          refine lv_l2i hx hb dX10_product_36 rfl ?_
          refine lv_topi (fun v16 hv16 => ?_)
          clear hv16
          have hl : lv_has _ _ ([(0, .long p1), (2, .long p2), (4, .int p3)]) := lv_sub hl [0, 1, 2] rfl
          exact join2 _ _ _ _ ⟨v16, rfl, hP, hD, hS, hl⟩
        · have t_23 : ¬ v13.toInt ≤ v14.toInt := toL_nle c_23 rfl rfl
          refine lv_iload hx hb dX10_product_26 (lv_at hl 2 rfl) ?_
          refine lv_iconst (v := 1) hx hb dX10_product_28 (by decide) ?_
          refine lv_iadd hx hb dX10_product_29 ?_
          refine lv_topi (fun y17 hy17 => ?_)
          obtain rfl : (iI (p3.toInt + 1)) = y17 := (hy17.trans (iI_add2 (iI_of _) (by decide : (1 : Int32) = iI 1))).symm
          refine lv_goto (tgt := 37) hx hb dX10_product_30 (by decide) ?_
          have hl : lv_has _ _ ([(0, .long p1), (2, .long p2), (4, .int p3)]) := lv_sub hl [0, 1, 2] rfl
          exact join2 _ _ _ _ ⟨(iI (p3.toInt + 1)), rfl, hP, hD, hS, hl⟩
  · rintro H locs ls stk ⟨k0_j2, rfl, hP, hD, hS, hl⟩
    refine W.widen (k := 0) (n := 0) (by decide +kernel) (by decide +kernel) ?_
    exact W.iret (v := k0_j2) hx hb hr (fun t9_ ht hW => ⟨⟨k0_j2, (), rfl, trivial, trivial⟩, hS.F ht⟩) hS.2.2 dX10_product_37
theorem dX10_stretchWay_0 : decode cX10_stretchWay 0 = .ok (.iconst 0, 1) := dk_3 (by decide +kernel)
theorem dX10_stretchWay_1 : decode cX10_stretchWay 1 = .ok (.istore 4, 2) := dk_54 (by decide +kernel)
theorem dX10_stretchWay_3 : decode cX10_stretchWay 3 = .ok (.iload 4, 2) := dk_21 (by decide +kernel)
theorem dX10_stretchWay_5 : decode cX10_stretchWay 5 = .ok (.aload_n 0, 1) := dk_42 (by decide +kernel)
theorem dX10_stretchWay_6 : decode cX10_stretchWay 6 = .ok (.getfield 51, 3) := dk_180 (by decide +kernel)
theorem dX10_stretchWay_9 : decode cX10_stretchWay 9 = .ok (.getfield 93, 3) := dk_180 (by decide +kernel)
theorem dX10_stretchWay_12 : decode cX10_stretchWay 12 = .ok (.if_icmp .ge 53, 3) := dk_162 (by decide +kernel)
theorem dX10_stretchWay_15 : decode cX10_stretchWay 15 = .ok (.aload_n 0, 1) := dk_42 (by decide +kernel)
theorem dX10_stretchWay_16 : decode cX10_stretchWay 16 = .ok (.getfield 51, 3) := dk_180 (by decide +kernel)
theorem dX10_stretchWay_19 : decode cX10_stretchWay 19 = .ok (.iload_n 1, 1) := dk_27 (by decide +kernel)
theorem dX10_stretchWay_20 : decode cX10_stretchWay 20 = .ok (.iload_n 2, 1) := dk_28 (by decide +kernel)
theorem dX10_stretchWay_21 : decode cX10_stretchWay 21 = .ok (.iload 4, 2) := dk_21 (by decide +kernel)
theorem dX10_stretchWay_23 : decode cX10_stretchWay 23 = .ok (.invokevirtual 196, 3) := dk_182 (by decide +kernel)
theorem dX10_stretchWay_26 : decode cX10_stretchWay 26 = .ok (.iload_n 3, 1) := dk_29 (by decide +kernel)
theorem dX10_stretchWay_27 : decode cX10_stretchWay 27 = .ok (.imul, 1) := dk_104 (by decide +kernel)
theorem dX10_stretchWay_28 : decode cX10_stretchWay 28 = .ok (.istore 5, 2) := dk_54 (by decide +kernel)
theorem dX10_stretchWay_30 : decode cX10_stretchWay 30 = .ok (.iload 5, 2) := dk_21 (by decide +kernel)
theorem dX10_stretchWay_32 : decode cX10_stretchWay 32 = .ok (.bipush 99, 2) := dk_16 (by decide +kernel)
theorem dX10_stretchWay_34 : decode cX10_stretchWay 34 = .ok (.if_icmp .gt 10, 3) := dk_163 (by decide +kernel)
theorem dX10_stretchWay_37 : decode cX10_stretchWay 37 = .ok (.iload 5, 2) := dk_21 (by decide +kernel)
theorem dX10_stretchWay_39 : decode cX10_stretchWay 39 = .ok (.bipush (-99), 2) := dk_16 (by decide +kernel)
theorem dX10_stretchWay_41 : decode cX10_stretchWay 41 = .ok (.if_icmp .ge 5, 3) := dk_162 (by decide +kernel)
theorem dX10_stretchWay_44 : decode cX10_stretchWay 44 = .ok (.iconst 0, 1) := dk_3 (by decide +kernel)
theorem dX10_stretchWay_45 : decode cX10_stretchWay 45 = .ok (.ireturn, 1) := dk_172 (by decide +kernel)
theorem dX10_stretchWay_46 : decode cX10_stretchWay 46 = .ok (.aload_n 0, 1) := dk_42 (by decide +kernel)
theorem dX10_stretchWay_47 : decode cX10_stretchWay 47 = .ok (.getfield 51, 3) := dk_180 (by decide +kernel)
theorem dX10_stretchWay_50 : decode cX10_stretchWay 50 = .ok (.iload_n 1, 1) := dk_27 (by decide +kernel)
theorem dX10_stretchWay_51 : decode cX10_stretchWay 51 = .ok (.iload_n 2, 1) := dk_28 (by decide +kernel)
theorem dX10_stretchWay_52 : decode cX10_stretchWay 52 = .ok (.iload 4, 2) := dk_21 (by decide +kernel)
theorem dX10_stretchWay_54 : decode cX10_stretchWay 54 = .ok (.iload 5, 2) := dk_21 (by decide +kernel)
theorem dX10_stretchWay_56 : decode cX10_stretchWay 56 = .ok (.invokevirtual 169, 3) := dk_182 (by decide +kernel)
theorem dX10_stretchWay_59 : decode cX10_stretchWay 59 = .ok (.iinc 4 1, 3) := dk_132 (by decide +kernel)
theorem dX10_stretchWay_62 : decode cX10_stretchWay 62 = .ok (.goto (-59), 3) := dk_167 (by decide +kernel)
theorem dX10_stretchWay_65 : decode cX10_stretchWay 65 = .ok (.iconst 1, 1) := dk_4 (by decide +kernel)
theorem dX10_stretchWay_66 : decode cX10_stretchWay 66 = .ok (.ireturn, 1) := dk_172 (by decide +kernel)
def wsMX10_stretchWay : List Cond := .code yX10_stretchWay cX10_stretchWay 6 (some .boolean) :: ([.fieldLink RX10 51 "OptimaWorks$Worker" "model" "LOptimaWorks$Model;", .fieldLink RX10 93 "OptimaWorks$Model" "variables" "I"] ++ wsX10 ++ wsX100 ++ (wsV RX10 196 RX1 yX1_number wsMX1_number) ++ (wsV RX10 169 RX1 yX1_keepNumber wsMX1_keepNumber))
theorem iwsMX10_stretchWay_in1 : ∀ w ∈ wsX10, w ∈ wsMX10_stretchWay := fun _ h => List.mem_cons_of_mem _ (List.mem_append_left _ (List.mem_append_left _ (List.mem_append_left _ (List.mem_append_right _ h))))
theorem iwsMX10_stretchWay_in10 : ∀ w ∈ wsX100, w ∈ wsMX10_stretchWay := fun _ h => List.mem_cons_of_mem _ (List.mem_append_left _ (List.mem_append_left _ (List.mem_append_right _ h)))
theorem gwsMX10_stretchWay_0 : GoodIn wsMX10_stretchWay (wsV RX10 196 RX1 yX1_number wsMX1_number) := goodIn_sub (fun _ h => List.mem_cons_of_mem _ (List.mem_append_left _ (List.mem_append_right _ h))) (gdV (by decide +kernel) gdwsMX1_number)
theorem gwsMX10_stretchWay_1 : GoodIn wsMX10_stretchWay (wsV RX10 169 RX1 yX1_keepNumber wsMX1_keepNumber) := goodIn_sub (fun _ h => List.mem_cons_of_mem _ (List.mem_append_right _ h)) (gdV (by decide +kernel) gdwsMX1_keepNumber)
theorem gdwsMX10_stretchWay : wsMX10_stretchWay.all goodWord = true := gdC rfl (gdA (gdA (gdA (gdA (by decide +kernel : ([.fieldLink RX10 51 "OptimaWorks$Worker" "model" "LOptimaWorks$Model;", .fieldLink RX10 93 "OptimaWorks$Model" "variables" "I"] : List Cond).all goodWord = true) gdwsX10) gdwsX100) (gdV (by decide +kernel) gdwsMX1_number)) (gdV (by decide +kernel) gdwsMX1_keepNumber))
set_option maxHeartbeats 4000000 in
set_option maxRecDepth 100000 in
/-- a way times a number -/
theorem m_X10_stretchWay (l : Launch) (dC : Nat → ClassId) (dI : Nat → Nat → Nat) (hL : Nat → Nat) (aL : Nat → Nat) (kL : Nat → ClassId) (hT : Nat → Nat) (hM : Nat → Nat) (xL_tree : Value) (iL_names : Int32) (gL_key : Nat → Int64) (fL_kind : Nat → Int32) (fL_one : Nat → Int32) (fL_two : Nat → Int32) (fL_base : Nat → Int32) (iL_params : Int32) (fL_paramOver : Nat → Int32) (dL_paramOver : Nat) (nL_params : Nat) (fL_paramUnder : Nat → Int32) (dL_paramUnder : Nat) (nL_pu : Nat) (gL_over : Nat → Int64) (gL_under : Nat → Int64) (fL_bound : Nat → Int32) (iL_nameAt : Int32) (iL_startAt : Int32) (iL_steps : Int32) (jL_scaleOver : Int64) (jL_scaleUnder : Int64) (aM : Nat → Nat) (kM : Nat → ClassId) (iM_stands : Int32) (iM_variables : Int32) (iM_rows : Int32) (iM_goals : Int32) (iM_differents : Int32) (iM_cases : Int32) (fM_from : Nat → Int32) (fM_to : Nat → Int32) (fM_whole : Nat → Int32) (fM_ways : Nat → Int32) (iM_plainRows : Int32) (fM_plainRow : Nat → Int32) (fM_kept : Nat → Int32) (fM_goalOver : Nat → Int32) (fM_goalUnder : Nat → Int32) (fM_goalMax : Nat → Int32) (fM_different : Nat → Int32) (p1 : Int32) (p2 : Int32) (p3 : Int32) (b_iL_names : 0 ≤ iL_names.toInt ∧ iL_names.toInt ≤ 40) (b_fL_kind : ∀ q : Nat, 0 ≤ (fL_kind q).toInt ∧ (fL_kind q).toInt ≤ 5) (b_fL_two : ∀ q : Nat, (-1) ≤ (fL_two q).toInt ∧ (fL_two q).toInt ≤ 39) (b_fL_base : ∀ q : Nat, 0 ≤ (fL_base q).toInt ∧ (fL_base q).toInt ≤ 2560) (b_iL_params : 0 ≤ iL_params.toInt ∧ iL_params.toInt ≤ 2560) (b_nL_params : 0 ≤ nL_params ∧ nL_params ≤ 2560) (b_nm : NmL iL_names fL_kind fL_one fL_two fL_base nL_params) (b_pm : iL_params.toInt ≤ ((nL_params : Nat) : Int)) (b_pu : nL_pu = nL_params) (b_iM_stands : 0 ≤ iM_stands.toInt ∧ iM_stands.toInt ≤ 1) (b_iM_variables : 0 ≤ iM_variables.toInt ∧ iM_variables.toInt ≤ 8) (b_iM_rows : 0 ≤ iM_rows.toInt ∧ iM_rows.toInt ≤ 12) (b_iM_goals : 0 ≤ iM_goals.toInt ∧ iM_goals.toInt ≤ 3) (b_iM_differents : 0 ≤ iM_differents.toInt ∧ iM_differents.toInt ≤ 8) (b_iM_cases : 0 ≤ iM_cases.toInt ∧ iM_cases.toInt ≤ 200000) (b_fM_ways : ∀ q : Nat, 0 ≤ (fM_ways q).toInt ∧ (fM_ways q).toInt ≤ 3) (b_iM_plainRows : 0 ≤ iM_plainRows.toInt ∧ iM_plainRows.toInt ≤ 12) (b_fM_plainRow : ∀ q : Nat, 0 ≤ (fM_plainRow q).toInt ∧ (fM_plainRow q).toInt ≤ 11) (b_pr : iM_plainRows.toInt ≤ iM_rows.toInt) (b_p1 : 0 ≤ p1.toInt ∧ p1.toInt ≤ 11) (b_p2 : 0 ≤ p2.toInt ∧ p2.toInt ≤ 2) (sz : Nat) : Met l yX10_stretchWay wsMX10_stretchWay ({ frames := 1, cells := 0, slots := 0, locals := 24 }) (va_Pc [.ref (hL 0), .int p1, .int p2, .int p3] (fun U => U.heap.size = sz ∧ va_P (dC, dI) vwCl (WL hL aL kL hT hM xL_tree iL_names gL_key fL_kind fL_one fL_two fL_base iL_params fL_paramOver dL_paramOver nL_params fL_paramUnder dL_paramUnder nL_pu gL_over gL_under fL_bound iL_nameAt iL_startAt iL_steps jL_scaleOver jL_scaleUnder ++ (WM hM aM kM iM_stands iM_variables iM_rows iM_goals iM_differents iM_cases fM_from fM_to fM_whole fM_ways iM_plainRows fM_plainRow fM_kept fM_goalOver fM_goalUnder fM_goalMax fM_different)) U.heap ∧ va_K (dC, dI) vwCl (tL kL ++ (tM kM)) U ∧ va_D (fun _ => True) (WL hL aL kL hT hM xL_tree iL_names gL_key fL_kind fL_one fL_two fL_base iL_params fL_paramOver dL_paramOver nL_params fL_paramUnder dL_paramUnder nL_pu gL_over gL_under fL_bound iL_nameAt iL_startAt iL_steps jL_scaleOver jL_scaleUnder ++ (WM hM aM kM iM_stands iM_variables iM_rows iM_goals iM_differents iM_cases fM_from fM_to fM_whole fM_ways iM_plainRows fM_plainRow fM_kept fM_goalOver fM_goalUnder fM_goalMax fM_different)))) (va_Qi (fun (r : Int32) (u : Nat → Int32) => (0 ≤ r.toInt ∧ r.toInt ≤ 1)) (fun (u : Nat → Int32) t => va_P (dC, dI) vwCl (WL hL aL kL hT hM xL_tree iL_names gL_key fL_kind fL_one fL_two fL_base iL_params fL_paramOver dL_paramOver nL_params fL_paramUnder dL_paramUnder nL_pu gL_over gL_under fL_bound iL_nameAt iL_startAt iL_steps jL_scaleOver jL_scaleUnder ++ (WM hM aM kM iM_stands iM_variables iM_rows iM_goals iM_differents iM_cases fM_from fM_to fM_whole fM_ways iM_plainRows fM_plainRow u fM_goalOver fM_goalUnder fM_goalMax fM_different)) t.heap ∧ va_D (va_A (WL hL aL kL hT hM xL_tree iL_names gL_key fL_kind fL_one fL_two fL_base iL_params fL_paramOver dL_paramOver nL_params fL_paramUnder dL_paramUnder nL_pu gL_over gL_under fL_bound iL_nameAt iL_startAt iL_steps jL_scaleOver jL_scaleUnder ++ (WM hM aM kM iM_stands iM_variables iM_rows iM_goals iM_differents iM_cases fM_from fM_to fM_whole fM_ways iM_plainRows fM_plainRow fM_kept fM_goalOver fM_goalUnder fM_goalMax fM_different)) sz) (WL hL aL kL hT hM xL_tree iL_names gL_key fL_kind fL_one fL_two fL_base iL_params fL_paramOver dL_paramOver nL_params fL_paramUnder dL_paramUnder nL_pu gL_over gL_under fL_bound iL_nameAt iL_startAt iL_steps jL_scaleOver jL_scaleUnder ++ (WM hM aM kM iM_stands iM_variables iM_rows iM_goals iM_differents iM_cases fM_from fM_to fM_whole fM_ways iM_plainRows fM_plainRow u fM_goalOver fM_goalUnder fM_goalMax fM_different))) (va_A (WL hL aL kL hT hM xL_tree iL_names gL_key fL_kind fL_one fL_two fL_base iL_params fL_paramOver dL_paramOver nL_params fL_paramUnder dL_paramUnder nL_pu gL_over gL_under fL_bound iL_nameAt iL_startAt iL_steps jL_scaleOver jL_scaleUnder ++ (WM hM aM kM iM_stands iM_variables iM_rows iM_goals iM_differents iM_cases fM_from fM_to fM_whole fM_ways iM_plainRows fM_plainRow fM_kept fM_goalOver fM_goalUnder fM_goalMax fM_different)) sz)) 0 0 (va_A (WL hL aL kL hT hM xL_tree iL_names gL_key fL_kind fL_one fL_two fL_base iL_params fL_paramOver dL_paramOver nL_params fL_paramUnder dL_paramUnder nL_pu gL_over gL_under fL_bound iL_nameAt iL_startAt iL_steps jL_scaleOver jL_scaleUnder ++ (WM hM aM kM iM_stands iM_variables iM_rows iM_goals iM_differents iM_cases fM_from fM_to fM_whole fM_ways iM_plainRows fM_plainRow fM_kept fM_goalOver fM_goalUnder fM_goalMax fM_different)) sz) := by
  refine Met.ofW (cc := cX10_stretchWay) (maxL := 6) (ret := (some .boolean)) (by decide) rfl ?_
  intro p e s m args below meth c s₁ B hml hv
  obtain ⟨rfl, hsz, hP, hK, hD0⟩ := hv
  have hx := B.exec
  have hb := B.bytes
  have hr := B.returns
  have hts := atoms_spec (ws := wsMX10_stretchWay) B.pre
  have hown : s.vm.findClass RX10 = some m.cls := findClass_of_methodNamed B.named
  have hlocks := B.notSynchronized
  subst hsz
  have hD := hD0.self (sz := s.heap.size)
  generalize hAe : va_A (WL hL aL kL hT hM xL_tree iL_names gL_key fL_kind fL_one fL_two fL_base iL_params fL_paramOver dL_paramOver nL_params fL_paramUnder dL_paramUnder nL_pu gL_over gL_under fL_bound iL_nameAt iL_startAt iL_steps jL_scaleOver jL_scaleUnder ++ (WM hM aM kM iM_stands iM_variables iM_rows iM_goals iM_differents iM_cases fM_from fM_to fM_whole fM_ways iM_plainRows fM_plainRow fM_kept fM_goalOver fM_goalUnder fM_goalMax fM_different)) s.heap.size = A at hD ⊢
  have hA : ∀ q : Nat, s.heap.size ≤ q → A q := fun q h => by rw [← hAe]; exact Or.inr h
  have hS : va_S A s.heap s.heap [] := va_S.rf
  have hl := lv_entry ([.ref (hL 0), .int p1, .int p2, .int p3]) (n := 6) (Nat.le_of_ble_eq_true rfl)
  rw [lg_entry_eq]
  generalize (lg_sl ([.ref (hL 0), .int p1, .int p2, .int p3]) ++ List.replicate (6 - (lg_sl ([.ref (hL 0), .int p1, .int p2, .int p3])).length) Slot.unset).toArray = ls at hl ⊢
  have hl : lv_has ls 6 [(0, .ref (hL 0)), (1, .int p1), (2, .int p2), (3, .int p3)] := hl
  refine lv_iconst (v := 0) hx hb dX10_stretchWay_0 (by decide) ?_
  refine lv_istore hx hb dX10_stretchWay_1 hl (by decide) rfl (fun ls (hl : lv_has ls _ ([(4, .int 0), (0, .ref (hL 0)), (1, .int p1), (2, .int p2), (3, .int p3)])) => ?_)
  have hl : lv_has _ _ ([(4, .int 0), (0, .ref (hL 0)), (1, .int p1), (2, .int p2), (3, .int p3)]) := lv_sub hl [0, 1, 2, 3, 4] rfl
  refine (fun (loop : ∀ (n9 : Nat) (fM_kept_x3 : Nat → Int32) (l4_x3 : Int32) (H : Heap) (locs : List Loc) (ls : Array Slot), (0 ≤ l4_x3.toInt ∧ l4_x3.toInt ≤ 8) → (8 - l4_x3.toInt < ((n9 : Nat) : Int)) → va_P (dC, dI) vwCl (WL hL aL kL hT hM xL_tree iL_names gL_key fL_kind fL_one fL_two fL_base iL_params fL_paramOver dL_paramOver nL_params fL_paramUnder dL_paramUnder nL_pu gL_over gL_under fL_bound iL_nameAt iL_startAt iL_steps jL_scaleOver jL_scaleUnder ++ (WM hM aM kM iM_stands iM_variables iM_rows iM_goals iM_differents iM_cases fM_from fM_to fM_whole fM_ways iM_plainRows fM_plainRow fM_kept_x3 fM_goalOver fM_goalUnder fM_goalMax fM_different)) H → va_D A (WL hL aL kL hT hM xL_tree iL_names gL_key fL_kind fL_one fL_two fL_base iL_params fL_paramOver dL_paramOver nL_params fL_paramUnder dL_paramUnder nL_pu gL_over gL_under fL_bound iL_nameAt iL_startAt iL_steps jL_scaleOver jL_scaleUnder ++ (WM hM aM kM iM_stands iM_variables iM_rows iM_goals iM_differents iM_cases fM_from fM_to fM_whole fM_ways iM_plainRows fM_plainRow fM_kept_x3 fM_goalOver fM_goalUnder fM_goalMax fM_different)) → va_S A s.heap H locs → lv_has ls 6 [(4, .int l4_x3), (0, .ref (hL 0)), (1, .int p1), (2, .int p2), (3, .int p3)] → W p l e _ s m _ below meth c H locs 0 0 _ (F0 m 3 ls [])) => loop (9) fM_kept 0 _ _ _ (show 0 ≤ (0 : Int32).toInt ∧ (0 : Int32).toInt ≤ 8 from by decide) ((by have e9 : (0 : Int32).toInt = 0 := (by decide : (0 : Int32).toInt = 0); omega)) hP hD hS hl) ?_
  intro n9
  induction n9 with
  | zero => intro fM_kept_x3 l4_x3 H locs ls b_l4_x3 hf9; exact False.elim (by omega)
  | succ n9 ihx3 =>
    intro fM_kept_x3 l4_x3 H locs ls b_l4_x3 hfx3 hP hD hS hl
    refine lv_iload hx hb dX10_stretchWay_3 (lv_at hl 0 rfl) ?_
    refine lv_aload_n hx hb dX10_stretchWay_5 rfl (lv_at hl 1 rfl) ?_
    refine va_get (D := (dC, dI)) (ci := 10) (v := .ref (hM 0)) (C := RX10) (T := TX10) (N := 20) hx hb hts iwsMX10_stretchWay_in10 hown hK hP 0 rfl rfl 1 (by decide) (hts (.fieldLink RX10 51 "OptimaWorks$Worker" "model" "LOptimaWorks$Model;") (by decide +kernel)) (fun _ h9 => h9) rfl dX10_stretchWay_6 ?_
    refine va_get (D := (dC, dI)) (ci := 1) (v := .int iM_variables) (C := RX1) (T := TX1) (N := 17) hx hb hts iwsMX10_stretchWay_in1 hown hK hP 11 rfl rfl 1 (by decide) (hts (.fieldLink RX10 93 "OptimaWorks$Model" "variables" "I") (by decide +kernel)) (fun _ h9 => h9) rfl dX10_stretchWay_9 ?_
    refine lv_icmp_ge (tgt := 65) hx hb dX10_stretchWay_12 (by decide) (fun c_12 => ?_) (fun c_12 => ?_)
    · have t_12 : l4_x3.toInt ≥ iM_variables.toInt := toI_ge c_12 rfl rfl
      refine lv_iconst (v := 1) hx hb dX10_stretchWay_65 (by decide) ?_
      refine W.widen (k := 0) (n := 0) (by decide +kernel) (by decide +kernel) ?_
      exact W.zret (v := 1) hx hb hr rfl (fun t9_ ht hW => ⟨⟨(1 : Int32), fM_kept_x3, rfl, (show 0 ≤ (1 : Int32).toInt ∧ (1 : Int32).toInt ≤ 1 from by decide), by rw [ht]; exact hP, hD⟩, hS.F ht⟩) hS.2.2 dX10_stretchWay_66
    · have t_12 : ¬ l4_x3.toInt ≥ iM_variables.toInt := toI_nge c_12 rfl rfl
      refine lv_aload_n hx hb dX10_stretchWay_15 rfl (lv_at hl 1 rfl) ?_
      refine va_get (D := (dC, dI)) (ci := 10) (v := .ref (hM 0)) (C := RX10) (T := TX10) (N := 20) hx hb hts iwsMX10_stretchWay_in10 hown hK hP 0 rfl rfl 1 (by decide) (hts (.fieldLink RX10 51 "OptimaWorks$Worker" "model" "LOptimaWorks$Model;") (by decide +kernel)) (fun _ h9 => h9) rfl dX10_stretchWay_16 ?_
      refine lv_iload_n hx hb dX10_stretchWay_19 rfl (lv_at hl 2 rfl) ?_
      refine lv_iload_n hx hb dX10_stretchWay_20 rfl (lv_at hl 3 rfl) ?_
      refine lv_iload hx hb dX10_stretchWay_21 (lv_at hl 0 rfl) ?_
      have hPc : va_P (dC, dI) vwCl (WM hM aM kM iM_stands iM_variables iM_rows iM_goals iM_differents iM_cases fM_from fM_to fM_whole fM_ways iM_plainRows fM_plainRow fM_kept_x3 fM_goalOver fM_goalUnder fM_goalMax fM_different) _ := hP.sub [11, 12, 13, 14, 15, 16, 17, 18, 19, 20, 21] rfl
      have hDc : va_D _ (WM hM aM kM iM_stands iM_variables iM_rows iM_goals iM_differents iM_cases fM_from fM_to fM_whole fM_ways iM_plainRows fM_plainRow fM_kept_x3 fM_goalOver fM_goalUnder fM_goalMax fM_different) := hD.sub [11, 12, 13, 14, 15, 16, 17, 18, 19, 20, 21] (by decide) rfl
      have hKc : va_K (dC, dI) vwCl (tM kM) _ := hK.sub [10, 11, 12, 13, 14, 15, 16, 17, 18, 19] rfl
      have hFc := va_free (wc := WM hM aM kM iM_stands iM_variables iM_rows iM_goals iM_differents iM_cases fM_from fM_to fM_whole fM_ways iM_plainRows fM_plainRow fM_kept_x3 fM_goalOver fM_goalUnder fM_goalMax fM_different) hD hS hA [11, 12, 13, 14, 15, 16, 17, 18, 19, 20, 21] rfl
      refine va_calli (va_runV (As := [.int p1, .int p2, .int l4_x3]) (rest := []) ⟨hx, hb, hml, hown, hts⟩ (m_X1_number l dC dI hM aM kM iM_stands iM_variables iM_rows iM_goals iM_differents iM_cases fM_from fM_to fM_whole fM_ways iM_plainRows fM_plainRow fM_kept_x3 fM_goalOver fM_goalUnder fM_goalMax fM_different p1 p2 l4_x3 (b_iM_stands) (b_iM_variables) (b_iM_rows) (b_iM_goals) (b_iM_differents) (b_iM_cases) b_fM_ways (b_iM_plainRows) b_fM_plainRow (by first | with_reducible assumption | omega | assumption) (b_p1) (b_p2) (b_l4_x3) H.size) (cwV 3 hts gwsMX10_stretchWay_0 rfl rfl rfl hd_yX1_number_RX1 (by decide +kernel)) (fz_pre (va_recv hK hP (ci := 1) (q0 := 11) rfl rfl) hPc hKc hDc) rfl rfl hl.1 rfl (lv_room (Nat.le_of_ble_eq_true rfl)) dX10_stretchWay_23 (by decide +kernel)) hS (fun q _ h => hFc q h) hFc (fun r7 u t9_ H locs ht hvm hw9 hB9 hz1 hk1 hS => ?_)
      clear hw9
      obtain ⟨hP, hD⟩ := va_join (wr := [(hL 0, .inr (10, [.ref (hT 0), .ref (hM 0), xL_tree, .int iL_names, .ref (aL 0), .ref (aL 1), .ref (aL 2), .ref (aL 3), .ref (aL 4), .int iL_params, .ref dL_paramOver, .ref dL_paramUnder, .ref (aL 7), .ref (aL 8), .ref (aL 9), .int iL_nameAt, .int iL_startAt, .int iL_steps, .long jL_scaleOver, .long jL_scaleUnder])), (aL 0, .inl (kL 0, 40, .inr (.inl gL_key))), (aL 1, .inl (kL 1, 40, .inl fL_kind)), (aL 2, .inl (kL 2, 40, .inl fL_one)), (aL 3, .inl (kL 3, 40, .inl fL_two)), (aL 4, .inl (kL 4, 40, .inl fL_base)), (dL_paramOver, .inl (kL 5, nL_params, .inl fL_paramOver)), (dL_paramUnder, .inl (kL 6, nL_pu, .inl fL_paramUnder)), (aL 7, .inl (kL 7, 360, .inr (.inl gL_over))), (aL 8, .inl (kL 8, 360, .inr (.inl gL_under))), (aL 9, .inl (kL 9, 64, .inl fL_bound))]) (w1 := WM hM aM kM iM_stands iM_variables iM_rows iM_goals iM_differents iM_cases fM_from fM_to fM_whole fM_ways iM_plainRows fM_plainRow fM_kept_x3 fM_goalOver fM_goalUnder fM_goalMax fM_different) hP hD [11, 12, 13, 14, 15, 16, 17, 18, 19, 20, 21] [0, 1, 2, 3, 4, 5, 6, 7, 8, 9, 10] rfl rfl (by decide) (by decide) hk1 hFc (fz_P ht hB9.1) hB9.2
      have hP : va_P (dC, dI) vwCl (WL hL aL kL hT hM xL_tree iL_names gL_key fL_kind fL_one fL_two fL_base iL_params fL_paramOver dL_paramOver nL_params fL_paramUnder dL_paramUnder nL_pu gL_over gL_under fL_bound iL_nameAt iL_startAt iL_steps jL_scaleOver jL_scaleUnder ++ (WM hM aM kM iM_stands iM_variables iM_rows iM_goals iM_differents iM_cases fM_from fM_to fM_whole fM_ways iM_plainRows fM_plainRow fM_kept_x3 fM_goalOver fM_goalUnder fM_goalMax fM_different)) H := hP.sub [0, 1, 2, 3, 4, 5, 6, 7, 8, 9, 10, 11, 12, 13, 14, 15, 16, 17, 18, 19, 20, 21] rfl
      have hD : va_D A (WL hL aL kL hT hM xL_tree iL_names gL_key fL_kind fL_one fL_two fL_base iL_params fL_paramOver dL_paramOver nL_params fL_paramUnder dL_paramUnder nL_pu gL_over gL_under fL_bound iL_nameAt iL_startAt iL_steps jL_scaleOver jL_scaleUnder ++ (WM hM aM kM iM_stands iM_variables iM_rows iM_goals iM_differents iM_cases fM_from fM_to fM_whole fM_ways iM_plainRows fM_plainRow fM_kept_x3 fM_goalOver fM_goalUnder fM_goalMax fM_different)) := hD.sub [0, 1, 2, 3, 4, 5, 6, 7, 8, 9, 10, 11, 12, 13, 14, 15, 16, 17, 18, 19, 20, 21] (by decide) rfl
      refine lv_iload_n hx hb dX10_stretchWay_26 rfl (lv_at hl 4 rfl) ?_
      refine lv_imul hx hb dX10_stretchWay_27 ?_
      refine lv_topi (fun y8 hy8 => ?_)
      obtain rfl : (iI (r7.toInt * p3.toInt)) = y8 := (hy8.trans (iI_mul2 (iI_of _) (iI_of _))).symm
      refine lv_istore hx hb dX10_stretchWay_28 hl (by decide) rfl (fun ls (hl : lv_has ls _ ([(5, .int (iI (r7.toInt * p3.toInt))), (4, .int l4_x3), (0, .ref (hL 0)), (1, .int p1), (2, .int p2), (3, .int p3)])) => ?_)
      refine lv_iload hx hb dX10_stretchWay_30 (lv_at hl 0 rfl) ?_
      refine lv_bipush (v := 99) hx hb dX10_stretchWay_32 (by decide) ?_
      refine lv_icmp_gt (tgt := 44) hx hb dX10_stretchWay_34 (by decide) (fun c_34 => ?_) (fun c_34 => ?_)
      · first | (have t_34 : (r7.toInt * p3.toInt) > 99 := toI_gt c_34 (iI_t (by omega) (by omega)) (by decide : (99 : Int32).toInt = 99)) | skip
        refine lv_iconst (v := 0) hx hb dX10_stretchWay_44 (by decide) ?_
        refine W.widen (k := 0) (n := 0) (by decide +kernel) (by decide +kernel) ?_
        exact W.zret (v := 0) hx hb hr rfl (fun t9_ ht hW => ⟨⟨(0 : Int32), fM_kept_x3, rfl, (show 0 ≤ (0 : Int32).toInt ∧ (0 : Int32).toInt ≤ 1 from by decide), by rw [ht]; exact hP, hD⟩, hS.F ht⟩) hS.2.2 dX10_stretchWay_45
      · first | (have t_34 : ¬ (r7.toInt * p3.toInt) > 99 := toI_ngt c_34 (iI_t (by omega) (by omega)) (by decide : (99 : Int32).toInt = 99)) | skip
        refine lv_iload hx hb dX10_stretchWay_37 (lv_at hl 0 rfl) ?_
        refine lv_bipush (v := (-99)) hx hb dX10_stretchWay_39 (by decide) ?_
        refine lv_icmp_ge (tgt := 46) hx hb dX10_stretchWay_41 (by decide) (fun c_41 => ?_) (fun c_41 => ?_)
        · first | (have t_41 : (r7.toInt * p3.toInt) ≥ (-99) := toI_ge c_41 (iI_t (by omega) (by omega)) (by decide : ((-99) : Int32).toInt = (-99))) | skip
          refine lv_aload_n hx hb dX10_stretchWay_46 rfl (lv_at hl 2 rfl) ?_
          refine va_get (D := (dC, dI)) (ci := 10) (v := .ref (hM 0)) (C := RX10) (T := TX10) (N := 20) hx hb hts iwsMX10_stretchWay_in10 hown hK hP 0 rfl rfl 1 (by decide) (hts (.fieldLink RX10 51 "OptimaWorks$Worker" "model" "LOptimaWorks$Model;") (by decide +kernel)) (fun _ h9 => h9) rfl dX10_stretchWay_47 ?_
          refine lv_iload_n hx hb dX10_stretchWay_50 rfl (lv_at hl 3 rfl) ?_
          refine lv_iload_n hx hb dX10_stretchWay_51 rfl (lv_at hl 4 rfl) ?_
          refine lv_iload hx hb dX10_stretchWay_52 (lv_at hl 1 rfl) ?_
          refine lv_iload hx hb dX10_stretchWay_54 (lv_at hl 0 rfl) ?_
          have hPc : va_P (dC, dI) vwCl (WM hM aM kM iM_stands iM_variables iM_rows iM_goals iM_differents iM_cases fM_from fM_to fM_whole fM_ways iM_plainRows fM_plainRow fM_kept_x3 fM_goalOver fM_goalUnder fM_goalMax fM_different) _ := hP.sub [11, 12, 13, 14, 15, 16, 17, 18, 19, 20, 21] rfl
          have hDc : va_D _ (WM hM aM kM iM_stands iM_variables iM_rows iM_goals iM_differents iM_cases fM_from fM_to fM_whole fM_ways iM_plainRows fM_plainRow fM_kept_x3 fM_goalOver fM_goalUnder fM_goalMax fM_different) := hD.sub [11, 12, 13, 14, 15, 16, 17, 18, 19, 20, 21] (by decide) rfl
          have hKc : va_K (dC, dI) vwCl (tM kM) _ := hK.sub [10, 11, 12, 13, 14, 15, 16, 17, 18, 19] rfl
          have hFc := va_free (wc := WM hM aM kM iM_stands iM_variables iM_rows iM_goals iM_differents iM_cases fM_from fM_to fM_whole fM_ways iM_plainRows fM_plainRow fM_kept_x3 fM_goalOver fM_goalUnder fM_goalMax fM_different) hD hS hA [11, 12, 13, 14, 15, 16, 17, 18, 19, 20, 21] rfl
          refine va_callv (va_runV (As := [.int p1, .int p2, .int l4_x3, .int (iI (r7.toInt * p3.toInt))]) (rest := []) ⟨hx, hb, hml, hown, hts⟩ (m_X1_keepNumber l dC dI hM aM kM iM_stands iM_variables iM_rows iM_goals iM_differents iM_cases fM_from fM_to fM_whole fM_ways iM_plainRows fM_plainRow fM_kept_x3 fM_goalOver fM_goalUnder fM_goalMax fM_different p1 p2 l4_x3 (iI (r7.toInt * p3.toInt)) (b_iM_stands) (b_iM_variables) (b_iM_rows) (b_iM_goals) (b_iM_differents) (b_iM_cases) b_fM_ways (b_iM_plainRows) b_fM_plainRow (by first | with_reducible assumption | omega | assumption) (b_p1) (b_p2) (b_l4_x3) H.size) (cwV 4 hts gwsMX10_stretchWay_1 rfl rfl rfl hd_yX1_keepNumber_RX1 (by decide +kernel)) (fz_pre (va_recv hK hP (ci := 1) (q0 := 11) rfl rfl) hPc hKc hDc) rfl rfl hl.1 rfl (lv_room (Nat.le_of_ble_eq_true rfl)) dX10_stretchWay_56 (by decide +kernel)) hS (fun q _ h => hFc q h) hFc (fun fM_kept_9 t9_ H locs ht hvm hw9 hB9 hz1 hk1 hS => ?_)
          clear hw9
          obtain ⟨hP, hD⟩ := va_join (wr := [(hL 0, .inr (10, [.ref (hT 0), .ref (hM 0), xL_tree, .int iL_names, .ref (aL 0), .ref (aL 1), .ref (aL 2), .ref (aL 3), .ref (aL 4), .int iL_params, .ref dL_paramOver, .ref dL_paramUnder, .ref (aL 7), .ref (aL 8), .ref (aL 9), .int iL_nameAt, .int iL_startAt, .int iL_steps, .long jL_scaleOver, .long jL_scaleUnder])), (aL 0, .inl (kL 0, 40, .inr (.inl gL_key))), (aL 1, .inl (kL 1, 40, .inl fL_kind)), (aL 2, .inl (kL 2, 40, .inl fL_one)), (aL 3, .inl (kL 3, 40, .inl fL_two)), (aL 4, .inl (kL 4, 40, .inl fL_base)), (dL_paramOver, .inl (kL 5, nL_params, .inl fL_paramOver)), (dL_paramUnder, .inl (kL 6, nL_pu, .inl fL_paramUnder)), (aL 7, .inl (kL 7, 360, .inr (.inl gL_over))), (aL 8, .inl (kL 8, 360, .inr (.inl gL_under))), (aL 9, .inl (kL 9, 64, .inl fL_bound))]) (w1 := WM hM aM kM iM_stands iM_variables iM_rows iM_goals iM_differents iM_cases fM_from fM_to fM_whole fM_ways iM_plainRows fM_plainRow fM_kept_9 fM_goalOver fM_goalUnder fM_goalMax fM_different) hP hD [11, 12, 13, 14, 15, 16, 17, 18, 19, 20, 21] [0, 1, 2, 3, 4, 5, 6, 7, 8, 9, 10] rfl rfl (by decide) (by decide) hk1 hFc (fz_P ht hB9.1) hB9.2
          have hP : va_P (dC, dI) vwCl (WL hL aL kL hT hM xL_tree iL_names gL_key fL_kind fL_one fL_two fL_base iL_params fL_paramOver dL_paramOver nL_params fL_paramUnder dL_paramUnder nL_pu gL_over gL_under fL_bound iL_nameAt iL_startAt iL_steps jL_scaleOver jL_scaleUnder ++ (WM hM aM kM iM_stands iM_variables iM_rows iM_goals iM_differents iM_cases fM_from fM_to fM_whole fM_ways iM_plainRows fM_plainRow fM_kept_9 fM_goalOver fM_goalUnder fM_goalMax fM_different)) H := hP.sub [0, 1, 2, 3, 4, 5, 6, 7, 8, 9, 10, 11, 12, 13, 14, 15, 16, 17, 18, 19, 20, 21] rfl
          have hD : va_D A (WL hL aL kL hT hM xL_tree iL_names gL_key fL_kind fL_one fL_two fL_base iL_params fL_paramOver dL_paramOver nL_params fL_paramUnder dL_paramUnder nL_pu gL_over gL_under fL_bound iL_nameAt iL_startAt iL_steps jL_scaleOver jL_scaleUnder ++ (WM hM aM kM iM_stands iM_variables iM_rows iM_goals iM_differents iM_cases fM_from fM_to fM_whole fM_ways iM_plainRows fM_plainRow fM_kept_9 fM_goalOver fM_goalUnder fM_goalMax fM_different)) := hD.sub [0, 1, 2, 3, 4, 5, 6, 7, 8, 9, 10, 11, 12, 13, 14, 15, 16, 17, 18, 19, 20, 21] (by decide) rfl
          refine lv_iinc (v := (iI (l4_x3.toInt + 1))) hx hb dX10_stretchWay_59 hl (k := 1) rfl (iI_add2 (iI_of _) (by decide : (1 : Int32) = iI 1)) (by decide) rfl (fun ls (hl : lv_has ls _ ([(4, .int (iI (l4_x3.toInt + 1))), (5, .int (iI (r7.toInt * p3.toInt))), (0, .ref (hL 0)), (1, .int p1), (2, .int p2), (3, .int p3)])) => ?_)
          refine lv_goto (tgt := 3) hx hb dX10_stretchWay_62 (by decide) ?_
          have hl : lv_has _ _ ([(4, .int (iI (l4_x3.toInt + 1))), (0, .ref (hL 0)), (1, .int p1), (2, .int p2), (3, .int p3)]) := lv_sub hl [0, 2, 3, 4, 5] rfl
          exact ihx3 fM_kept_9 (iI (l4_x3.toInt + 1)) _ _ _ (iI_rng (Int.le_trans (by decide) (Int.add_le_add (b_l4_x3.1) (Int.le_refl _))) (by omega) (by decide) (by decide)) (by have e9 : ((iI (l4_x3.toInt + 1))).toInt = (l4_x3.toInt + 1) := (iI_t (Int.le_trans (by decide) (Int.add_le_add (b_l4_x3.1) (Int.le_refl _))) (Int.le_trans (Int.add_le_add (b_l4_x3.2) (Int.le_refl _)) (by decide))); omega) hP hD hS hl
        · first | (have t_41 : ¬ (r7.toInt * p3.toInt) ≥ (-99) := toI_nge c_41 (iI_t (by omega) (by omega)) (by decide : ((-99) : Int32).toInt = (-99))) | skip
          refine lv_iconst (v := 0) hx hb dX10_stretchWay_44 (by decide) ?_
          refine W.widen (k := 0) (n := 0) (by decide +kernel) (by decide +kernel) ?_
          exact W.zret (v := 0) hx hb hr rfl (fun t9_ ht hW => ⟨⟨(0 : Int32), fM_kept_x3, rfl, (show 0 ≤ (0 : Int32).toInt ∧ (0 : Int32).toInt ≤ 1 from by decide), by rw [ht]; exact hP, hD⟩, hS.F ht⟩) hS.2.2 dX10_stretchWay_45
theorem dX10_scaled_0 : decode cX10_scaled 0 = .ok (.aload_n 0, 1) := dk_42 (by decide +kernel)
theorem dX10_scaled_1 : decode cX10_scaled 1 = .ok (.getfield 36, 3) := dk_180 (by decide +kernel)
theorem dX10_scaled_4 : decode cX10_scaled 4 = .ok (.iload_n 3, 1) := dk_29 (by decide +kernel)
theorem dX10_scaled_5 : decode cX10_scaled 5 = .ok (.laload, 1) := dk_47 (by decide +kernel)
theorem dX10_scaled_6 : decode cX10_scaled 6 = .ok (.invokestatic 179, 3) := dk_184 (by decide +kernel)
theorem dX10_scaled_9 : decode cX10_scaled 9 = .ok (.lstore 5, 2) := dk_55 (by decide +kernel)
theorem dX10_scaled_11 : decode cX10_scaled 11 = .ok (.lload 5, 2) := dk_22 (by decide +kernel)
theorem dX10_scaled_13 : decode cX10_scaled 13 = .ok (.lconst 0, 1) := dk_9 (by decide +kernel)
theorem dX10_scaled_14 : decode cX10_scaled 14 = .ok (.lcmp, 1) := dk_148 (by decide +kernel)
theorem dX10_scaled_15 : decode cX10_scaled 15 = .ok (.ifCond .ne 5, 3) := dk_154 (by decide +kernel)
theorem dX10_scaled_18 : decode cX10_scaled 18 = .ok (.iconst 0, 1) := dk_3 (by decide +kernel)
theorem dX10_scaled_19 : decode cX10_scaled 19 = .ok (.ireturn, 1) := dk_172 (by decide +kernel)
theorem dX10_scaled_20 : decode cX10_scaled 20 = .ok (.iconst 1, 1) := dk_4 (by decide +kernel)
theorem dX10_scaled_21 : decode cX10_scaled 21 = .ok (.istore 7, 2) := dk_54 (by decide +kernel)
theorem dX10_scaled_23 : decode cX10_scaled 23 = .ok (.aload_n 0, 1) := dk_42 (by decide +kernel)
theorem dX10_scaled_24 : decode cX10_scaled 24 = .ok (.getfield 155, 3) := dk_180 (by decide +kernel)
theorem dX10_scaled_27 : decode cX10_scaled 27 = .ok (.lconst 0, 1) := dk_9 (by decide +kernel)
theorem dX10_scaled_28 : decode cX10_scaled 28 = .ok (.lcmp, 1) := dk_148 (by decide +kernel)
theorem dX10_scaled_29 : decode cX10_scaled 29 = .ok (.ifCond .ne 22, 3) := dk_154 (by decide +kernel)
theorem dX10_scaled_32 : decode cX10_scaled 32 = .ok (.aload_n 0, 1) := dk_42 (by decide +kernel)
theorem dX10_scaled_33 : decode cX10_scaled 33 = .ok (.aload_n 0, 1) := dk_42 (by decide +kernel)
theorem dX10_scaled_34 : decode cX10_scaled 34 = .ok (.getfield 39, 3) := dk_180 (by decide +kernel)
theorem dX10_scaled_37 : decode cX10_scaled 37 = .ok (.iload_n 3, 1) := dk_29 (by decide +kernel)
theorem dX10_scaled_38 : decode cX10_scaled 38 = .ok (.laload, 1) := dk_47 (by decide +kernel)
theorem dX10_scaled_39 : decode cX10_scaled 39 = .ok (.putfield 155, 3) := dk_181 (by decide +kernel)
theorem dX10_scaled_42 : decode cX10_scaled 42 = .ok (.aload_n 0, 1) := dk_42 (by decide +kernel)
theorem dX10_scaled_43 : decode cX10_scaled 43 = .ok (.lload 5, 2) := dk_22 (by decide +kernel)
theorem dX10_scaled_45 : decode cX10_scaled 45 = .ok (.putfield 159, 3) := dk_181 (by decide +kernel)
theorem dX10_scaled_48 : decode cX10_scaled 48 = .ok (.goto 158, 3) := dk_167 (by decide +kernel)
theorem dX10_scaled_51 : decode cX10_scaled 51 = .ok (.aload_n 0, 1) := dk_42 (by decide +kernel)
theorem dX10_scaled_52 : decode cX10_scaled 52 = .ok (.getfield 155, 3) := dk_180 (by decide +kernel)
theorem dX10_scaled_55 : decode cX10_scaled 55 = .ok (.aload_n 0, 1) := dk_42 (by decide +kernel)
theorem dX10_scaled_56 : decode cX10_scaled 56 = .ok (.getfield 39, 3) := dk_180 (by decide +kernel)
theorem dX10_scaled_59 : decode cX10_scaled 59 = .ok (.iload_n 3, 1) := dk_29 (by decide +kernel)
theorem dX10_scaled_60 : decode cX10_scaled 60 = .ok (.laload, 1) := dk_47 (by decide +kernel)
theorem dX10_scaled_61 : decode cX10_scaled 61 = .ok (.invokestatic 183, 3) := dk_184 (by decide +kernel)
theorem dX10_scaled_64 : decode cX10_scaled 64 = .ok (.lstore 8, 2) := dk_55 (by decide +kernel)
theorem dX10_scaled_66 : decode cX10_scaled 66 = .ok (.lload 5, 2) := dk_22 (by decide +kernel)
theorem dX10_scaled_68 : decode cX10_scaled 68 = .ok (.aload_n 0, 1) := dk_42 (by decide +kernel)
theorem dX10_scaled_69 : decode cX10_scaled 69 = .ok (.getfield 159, 3) := dk_180 (by decide +kernel)
theorem dX10_scaled_72 : decode cX10_scaled 72 = .ok (.invokestatic 183, 3) := dk_184 (by decide +kernel)
theorem dX10_scaled_75 : decode cX10_scaled 75 = .ok (.lstore 10, 2) := dk_55 (by decide +kernel)
theorem dX10_scaled_77 : decode cX10_scaled 77 = .ok (.iload_n 3, 1) := dk_29 (by decide +kernel)
theorem dX10_scaled_78 : decode cX10_scaled 78 = .ok (.ifCond .ne 8, 3) := dk_154 (by decide +kernel)
theorem dX10_scaled_81 : decode cX10_scaled 81 = .ok (.ldc 187, 2) := dk_18 (by decide +kernel)
theorem dX10_scaled_83 : decode cX10_scaled 83 = .ok (.goto 5, 3) := dk_167 (by decide +kernel)
theorem dX10_scaled_86 : decode cX10_scaled 86 = .ok (.bipush 99, 2) := dk_16 (by decide +kernel)
theorem dX10_scaled_88 : decode cX10_scaled 88 = .ok (.istore 12, 2) := dk_54 (by decide +kernel)
theorem dX10_scaled_90 : decode cX10_scaled 90 = .ok (.aload_n 0, 1) := dk_42 (by decide +kernel)
theorem dX10_scaled_91 : decode cX10_scaled 91 = .ok (.getfield 155, 3) := dk_180 (by decide +kernel)
theorem dX10_scaled_94 : decode cX10_scaled 94 = .ok (.lload 8, 2) := dk_22 (by decide +kernel)
theorem dX10_scaled_96 : decode cX10_scaled 96 = .ok (.ldiv, 1) := dk_109 (by decide +kernel)
theorem dX10_scaled_97 : decode cX10_scaled 97 = .ok (.lload 5, 2) := dk_22 (by decide +kernel)
theorem dX10_scaled_99 : decode cX10_scaled 99 = .ok (.lload 10, 2) := dk_22 (by decide +kernel)
theorem dX10_scaled_101 : decode cX10_scaled 101 = .ok (.ldiv, 1) := dk_109 (by decide +kernel)
theorem dX10_scaled_102 : decode cX10_scaled 102 = .ok (.iload 12, 2) := dk_21 (by decide +kernel)
theorem dX10_scaled_104 : decode cX10_scaled 104 = .ok (.invokestatic 188, 3) := dk_184 (by decide +kernel)
theorem dX10_scaled_107 : decode cX10_scaled 107 = .ok (.istore 7, 2) := dk_54 (by decide +kernel)
theorem dX10_scaled_109 : decode cX10_scaled 109 = .ok (.aload_n 0, 1) := dk_42 (by decide +kernel)
theorem dX10_scaled_110 : decode cX10_scaled 110 = .ok (.getfield 159, 3) := dk_180 (by decide +kernel)
theorem dX10_scaled_113 : decode cX10_scaled 113 = .ok (.lload 10, 2) := dk_22 (by decide +kernel)
theorem dX10_scaled_115 : decode cX10_scaled 115 = .ok (.ldiv, 1) := dk_109 (by decide +kernel)
theorem dX10_scaled_116 : decode cX10_scaled 116 = .ok (.aload_n 0, 1) := dk_42 (by decide +kernel)
theorem dX10_scaled_117 : decode cX10_scaled 117 = .ok (.getfield 39, 3) := dk_180 (by decide +kernel)
theorem dX10_scaled_120 : decode cX10_scaled 120 = .ok (.iload_n 3, 1) := dk_29 (by decide +kernel)
theorem dX10_scaled_121 : decode cX10_scaled 121 = .ok (.laload, 1) := dk_47 (by decide +kernel)
theorem dX10_scaled_122 : decode cX10_scaled 122 = .ok (.lload 8, 2) := dk_22 (by decide +kernel)
theorem dX10_scaled_124 : decode cX10_scaled 124 = .ok (.ldiv, 1) := dk_109 (by decide +kernel)
theorem dX10_scaled_125 : decode cX10_scaled 125 = .ok (.bipush 99, 2) := dk_16 (by decide +kernel)
theorem dX10_scaled_127 : decode cX10_scaled 127 = .ok (.invokestatic 188, 3) := dk_184 (by decide +kernel)
theorem dX10_scaled_130 : decode cX10_scaled 130 = .ok (.istore 13, 2) := dk_54 (by decide +kernel)
theorem dX10_scaled_132 : decode cX10_scaled 132 = .ok (.iload 7, 2) := dk_21 (by decide +kernel)
theorem dX10_scaled_134 : decode cX10_scaled 134 = .ok (.iload 12, 2) := dk_21 (by decide +kernel)
theorem dX10_scaled_136 : decode cX10_scaled 136 = .ok (.if_icmp .gt 21, 3) := dk_163 (by decide +kernel)
theorem dX10_scaled_139 : decode cX10_scaled 139 = .ok (.iload 13, 2) := dk_21 (by decide +kernel)
theorem dX10_scaled_141 : decode cX10_scaled 141 = .ok (.bipush 99, 2) := dk_16 (by decide +kernel)
theorem dX10_scaled_143 : decode cX10_scaled 143 = .ok (.if_icmp .gt 14, 3) := dk_163 (by decide +kernel)
theorem dX10_scaled_146 : decode cX10_scaled 146 = .ok (.aload_n 0, 1) := dk_42 (by decide +kernel)
theorem dX10_scaled_147 : decode cX10_scaled 147 = .ok (.iload_n 1, 1) := dk_27 (by decide +kernel)
theorem dX10_scaled_148 : decode cX10_scaled 148 = .ok (.iload_n 2, 1) := dk_28 (by decide +kernel)
theorem dX10_scaled_149 : decode cX10_scaled 149 = .ok (.iload 13, 2) := dk_21 (by decide +kernel)
theorem dX10_scaled_151 : decode cX10_scaled 151 = .ok (.invokevirtual 192, 3) := dk_182 (by decide +kernel)
theorem dX10_scaled_154 : decode cX10_scaled 154 = .ok (.ifCond .ne 14, 3) := dk_154 (by decide +kernel)
theorem dX10_scaled_157 : decode cX10_scaled 157 = .ok (.aload_n 0, 1) := dk_42 (by decide +kernel)
theorem dX10_scaled_158 : decode cX10_scaled 158 = .ok (.getfield 47, 3) := dk_180 (by decide +kernel)
theorem dX10_scaled_161 : decode cX10_scaled 161 = .ok (.bipush 9, 2) := dk_16 (by decide +kernel)
theorem dX10_scaled_163 : decode cX10_scaled 163 = .ok (.iload 4, 2) := dk_21 (by decide +kernel)
theorem dX10_scaled_165 : decode cX10_scaled 165 = .ok (.invokevirtual 90, 3) := dk_182 (by decide +kernel)
theorem dX10_scaled_168 : decode cX10_scaled 168 = .ok (.iload 13, 2) := dk_21 (by decide +kernel)
theorem dX10_scaled_170 : decode cX10_scaled 170 = .ok (.i2l, 1) := dk_133 (by decide +kernel)
theorem dX10_scaled_171 : decode cX10_scaled 171 = .ok (.aload_n 0, 1) := dk_42 (by decide +kernel)
theorem dX10_scaled_172 : decode cX10_scaled 172 = .ok (.getfield 159, 3) := dk_180 (by decide +kernel)
theorem dX10_scaled_175 : decode cX10_scaled 175 = .ok (.invokestatic 183, 3) := dk_184 (by decide +kernel)
theorem dX10_scaled_178 : decode cX10_scaled 178 = .ok (.lstore 14, 2) := dk_55 (by decide +kernel)
theorem dX10_scaled_180 : decode cX10_scaled 180 = .ok (.aload_n 0, 1) := dk_42 (by decide +kernel)
theorem dX10_scaled_181 : decode cX10_scaled 181 = .ok (.dup, 1) := dk_89 (by decide +kernel)
theorem dX10_scaled_182 : decode cX10_scaled 182 = .ok (.getfield 155, 3) := dk_180 (by decide +kernel)
theorem dX10_scaled_185 : decode cX10_scaled 185 = .ok (.iload 13, 2) := dk_21 (by decide +kernel)
theorem dX10_scaled_187 : decode cX10_scaled 187 = .ok (.i2l, 1) := dk_133 (by decide +kernel)
theorem dX10_scaled_188 : decode cX10_scaled 188 = .ok (.lload 14, 2) := dk_22 (by decide +kernel)
theorem dX10_scaled_190 : decode cX10_scaled 190 = .ok (.ldiv, 1) := dk_109 (by decide +kernel)
theorem dX10_scaled_191 : decode cX10_scaled 191 = .ok (.lmul, 1) := dk_105 (by decide +kernel)
theorem dX10_scaled_192 : decode cX10_scaled 192 = .ok (.putfield 155, 3) := dk_181 (by decide +kernel)
theorem dX10_scaled_195 : decode cX10_scaled 195 = .ok (.aload_n 0, 1) := dk_42 (by decide +kernel)
theorem dX10_scaled_196 : decode cX10_scaled 196 = .ok (.dup, 1) := dk_89 (by decide +kernel)
theorem dX10_scaled_197 : decode cX10_scaled 197 = .ok (.getfield 159, 3) := dk_180 (by decide +kernel)
theorem dX10_scaled_200 : decode cX10_scaled 200 = .ok (.lload 14, 2) := dk_22 (by decide +kernel)
theorem dX10_scaled_202 : decode cX10_scaled 202 = .ok (.ldiv, 1) := dk_109 (by decide +kernel)
theorem dX10_scaled_203 : decode cX10_scaled 203 = .ok (.putfield 159, 3) := dk_181 (by decide +kernel)
theorem dX10_scaled_206 : decode cX10_scaled 206 = .ok (.aload_n 0, 1) := dk_42 (by decide +kernel)
theorem dX10_scaled_207 : decode cX10_scaled 207 = .ok (.getfield 36, 3) := dk_180 (by decide +kernel)
theorem dX10_scaled_210 : decode cX10_scaled 210 = .ok (.iload_n 3, 1) := dk_29 (by decide +kernel)
theorem dX10_scaled_211 : decode cX10_scaled 211 = .ok (.laload, 1) := dk_47 (by decide +kernel)
theorem dX10_scaled_212 : decode cX10_scaled 212 = .ok (.lconst 0, 1) := dk_9 (by decide +kernel)
theorem dX10_scaled_213 : decode cX10_scaled 213 = .ok (.lcmp, 1) := dk_148 (by decide +kernel)
theorem dX10_scaled_214 : decode cX10_scaled 214 = .ok (.ifCond .ge 9, 3) := dk_156 (by decide +kernel)
theorem dX10_scaled_217 : decode cX10_scaled 217 = .ok (.iload 7, 2) := dk_21 (by decide +kernel)
theorem dX10_scaled_219 : decode cX10_scaled 219 = .ok (.ineg, 1) := dk_116 (by decide +kernel)
theorem dX10_scaled_220 : decode cX10_scaled 220 = .ok (.goto 5, 3) := dk_167 (by decide +kernel)
theorem dX10_scaled_223 : decode cX10_scaled 223 = .ok (.iload 7, 2) := dk_21 (by decide +kernel)
theorem dX10_scaled_225 : decode cX10_scaled 225 = .ok (.ireturn, 1) := dk_172 (by decide +kernel)
def wsMX10_scaled : List Cond := .code yX10_scaled cX10_scaled 16 (some .int) :: ([.fieldLink RX10 36 "OptimaWorks$Worker" "over" "[J", .methodLink RX10 179 Lib.MathLoose.abs_long.x, .static Lib.MathLoose.abs_long.x, .initialized "java/lang/Math", .code Lib.MathLoose.abs_long.x Lib.MathLoose.abs_long.code 2 (some .long), .fieldLink RX10 155 "OptimaWorks$Worker" "scaleOver" "J", .fieldLink RX10 39 "OptimaWorks$Worker" "under" "[J", .fieldLink RX10 159 "OptimaWorks$Worker" "scaleUnder" "J", .constant RX10 187 99999, .fieldLink RX10 47 "OptimaWorks$Worker" "words" "LOptimaWorks$Words;"] ++ wsX100 ++ (va_wsS RX10 183 yX10_divisor wsMX10_divisor) ++ (va_wsS RX10 188 yX10_product wsMX10_product) ++ (wsV RX10 90 RX9 yX9_fail wsMX9_fail) ++ (wsV RX10 192 RX10 yX10_stretchWay wsMX10_stretchWay))
theorem iwsMX10_scaled_in10 : ∀ w ∈ wsX100, w ∈ wsMX10_scaled := fun _ h => List.mem_cons_of_mem _ (List.mem_append_left _ (List.mem_append_left _ (List.mem_append_left _ (List.mem_append_left _ (List.mem_append_right _ h)))))
theorem gwsMX10_scaled_0 : GoodIn wsMX10_scaled (va_wsS RX10 183 yX10_divisor wsMX10_divisor) := goodIn_sub (fun _ h => List.mem_cons_of_mem _ (List.mem_append_left _ (List.mem_append_left _ (List.mem_append_left _ (List.mem_append_right _ h))))) (gdS (by decide +kernel) gdwsMX10_divisor)
theorem gwsMX10_scaled_1 : GoodIn wsMX10_scaled (va_wsS RX10 188 yX10_product wsMX10_product) := goodIn_sub (fun _ h => List.mem_cons_of_mem _ (List.mem_append_left _ (List.mem_append_left _ (List.mem_append_right _ h)))) (gdS (by decide +kernel) gdwsMX10_product)
theorem gwsMX10_scaled_2 : GoodIn wsMX10_scaled (wsV RX10 90 RX9 yX9_fail wsMX9_fail) := goodIn_sub (fun _ h => List.mem_cons_of_mem _ (List.mem_append_left _ (List.mem_append_right _ h))) (gdV (by decide +kernel) gdwsMX9_fail)
theorem gwsMX10_scaled_3 : GoodIn wsMX10_scaled (wsV RX10 192 RX10 yX10_stretchWay wsMX10_stretchWay) := goodIn_sub (fun _ h => List.mem_cons_of_mem _ (List.mem_append_right _ h)) (gdV (by decide +kernel) gdwsMX10_stretchWay)
theorem gdwsMX10_scaled : wsMX10_scaled.all goodWord = true := gdC rfl (gdA (gdA (gdA (gdA (gdA (by decide +kernel : ([.fieldLink RX10 36 "OptimaWorks$Worker" "over" "[J", .methodLink RX10 179 Lib.MathLoose.abs_long.x, .static Lib.MathLoose.abs_long.x, .initialized "java/lang/Math", .code Lib.MathLoose.abs_long.x Lib.MathLoose.abs_long.code 2 (some .long), .fieldLink RX10 155 "OptimaWorks$Worker" "scaleOver" "J", .fieldLink RX10 39 "OptimaWorks$Worker" "under" "[J", .fieldLink RX10 159 "OptimaWorks$Worker" "scaleUnder" "J", .constant RX10 187 99999, .fieldLink RX10 47 "OptimaWorks$Worker" "words" "LOptimaWorks$Words;"] : List Cond).all goodWord = true) gdwsX100) (gdS (by decide +kernel) gdwsMX10_divisor)) (gdS (by decide +kernel) gdwsMX10_product)) (gdV (by decide +kernel) gdwsMX9_fail)) (gdV (by decide +kernel) gdwsMX10_stretchWay))
set_option maxHeartbeats 4000000 in
set_option maxRecDepth 100000 in
/-- a number as kept -/
theorem m_X10_scaled (l : Launch) (hst : l.stackTraces = false) (dC : Nat → ClassId) (dI : Nat → Nat → Nat) (hL : Nat → Nat) (aL : Nat → Nat) (kL : Nat → ClassId) (hT : Nat → Nat) (hM : Nat → Nat) (xL_tree : Value) (iL_names : Int32) (gL_key : Nat → Int64) (fL_kind : Nat → Int32) (fL_one : Nat → Int32) (fL_two : Nat → Int32) (fL_base : Nat → Int32) (iL_params : Int32) (fL_paramOver : Nat → Int32) (dL_paramOver : Nat) (nL_params : Nat) (fL_paramUnder : Nat → Int32) (dL_paramUnder : Nat) (nL_pu : Nat) (gL_over : Nat → Int64) (gL_under : Nat → Int64) (fL_bound : Nat → Int32) (iL_nameAt : Int32) (iL_startAt : Int32) (iL_steps : Int32) (jL_scaleOver : Int64) (jL_scaleUnder : Int64) (aT : Nat → Nat) (kT : Nat → ClassId) (fT_tape : Nat → Int32) (dT_tape : Nat) (nT_tape : Nat) (iT_length : Int32) (iT_fault : Int32) (iT_place : Int32) (iT_kind : Int32) (iT_at : Int32) (iT_number : Int32) (jT_name : Int64) (iT_next : Int32) (aM : Nat → Nat) (kM : Nat → ClassId) (iM_stands : Int32) (iM_variables : Int32) (iM_rows : Int32) (iM_goals : Int32) (iM_differents : Int32) (iM_cases : Int32) (fM_from : Nat → Int32) (fM_to : Nat → Int32) (fM_whole : Nat → Int32) (fM_ways : Nat → Int32) (iM_plainRows : Int32) (fM_plainRow : Nat → Int32) (fM_kept : Nat → Int32) (fM_goalOver : Nat → Int32) (fM_goalUnder : Nat → Int32) (fM_goalMax : Nat → Int32) (fM_different : Nat → Int32) (p1 : Int32) (p2 : Int32) (p3 : Int32) (p4 : Int32) (b_iL_names : 0 ≤ iL_names.toInt ∧ iL_names.toInt ≤ 40) (b_fL_kind : ∀ q : Nat, 0 ≤ (fL_kind q).toInt ∧ (fL_kind q).toInt ≤ 5) (b_fL_two : ∀ q : Nat, (-1) ≤ (fL_two q).toInt ∧ (fL_two q).toInt ≤ 39) (b_fL_base : ∀ q : Nat, 0 ≤ (fL_base q).toInt ∧ (fL_base q).toInt ≤ 2560) (b_iL_params : 0 ≤ iL_params.toInt ∧ iL_params.toInt ≤ 2560) (b_nL_params : 0 ≤ nL_params ∧ nL_params ≤ 2560) (b_nm : NmL iL_names fL_kind fL_one fL_two fL_base nL_params) (b_pm : iL_params.toInt ≤ ((nL_params : Nat) : Int)) (b_pu : nL_pu = nL_params) (b_fT_tape : ∀ q : Nat, (-128) ≤ (fT_tape q).toInt ∧ (fT_tape q).toInt ≤ 127) (b_nT_tape : 64 ≤ nT_tape ∧ nT_tape ≤ 2560) (b_iT_length : 0 ≤ iT_length.toInt ∧ iT_length.toInt ≤ 1280) (b_iT_at : 0 ≤ iT_at.toInt ∧ iT_at.toInt ≤ 1282) (b_iT_number : 0 ≤ iT_number.toInt ∧ iT_number.toInt ≤ 999999) (b_iT_next : 0 ≤ iT_next.toInt ∧ iT_next.toInt ≤ 1282) (b_len : iT_length.toInt ≤ ((nT_tape : Nat) : Int)) (b_iM_stands : 0 ≤ iM_stands.toInt ∧ iM_stands.toInt ≤ 1) (b_iM_variables : 0 ≤ iM_variables.toInt ∧ iM_variables.toInt ≤ 8) (b_iM_rows : 0 ≤ iM_rows.toInt ∧ iM_rows.toInt ≤ 12) (b_iM_goals : 0 ≤ iM_goals.toInt ∧ iM_goals.toInt ≤ 3) (b_iM_differents : 0 ≤ iM_differents.toInt ∧ iM_differents.toInt ≤ 8) (b_iM_cases : 0 ≤ iM_cases.toInt ∧ iM_cases.toInt ≤ 200000) (b_fM_ways : ∀ q : Nat, 0 ≤ (fM_ways q).toInt ∧ (fM_ways q).toInt ≤ 3) (b_iM_plainRows : 0 ≤ iM_plainRows.toInt ∧ iM_plainRows.toInt ≤ 12) (b_fM_plainRow : ∀ q : Nat, 0 ≤ (fM_plainRow q).toInt ∧ (fM_plainRow q).toInt ≤ 11) (b_pr : iM_plainRows.toInt ≤ iM_rows.toInt) (b_p1 : 0 ≤ p1.toInt ∧ p1.toInt ≤ 11) (b_p2 : 0 ≤ p2.toInt ∧ p2.toInt ≤ 2) (b_p3 : 0 ≤ p3.toInt ∧ p3.toInt ≤ 8) (sz : Nat) : vx_Met l yX10_scaled wsMX10_scaled ({ frames := 7, cells := 1, slots := 6, locals := 103 }) (va_Pc [.ref (hL 0), .int p1, .int p2, .int p3, .int p4] (fun U => U.heap.size = sz ∧ va_P (dC, dI) vwCl (WL hL aL kL hT hM xL_tree iL_names gL_key fL_kind fL_one fL_two fL_base iL_params fL_paramOver dL_paramOver nL_params fL_paramUnder dL_paramUnder nL_pu gL_over gL_under fL_bound iL_nameAt iL_startAt iL_steps jL_scaleOver jL_scaleUnder ++ (WT hT aT kT fT_tape dT_tape nT_tape iT_length iT_fault iT_place iT_kind iT_at iT_number jT_name iT_next ++ (WM hM aM kM iM_stands iM_variables iM_rows iM_goals iM_differents iM_cases fM_from fM_to fM_whole fM_ways iM_plainRows fM_plainRow fM_kept fM_goalOver fM_goalUnder fM_goalMax fM_different))) U.heap ∧ va_K (dC, dI) vwCl (tL kL ++ (tT kT ++ (tM kM))) U ∧ va_D (fun _ => True) (WL hL aL kL hT hM xL_tree iL_names gL_key fL_kind fL_one fL_two fL_base iL_params fL_paramOver dL_paramOver nL_params fL_paramUnder dL_paramUnder nL_pu gL_over gL_under fL_bound iL_nameAt iL_startAt iL_steps jL_scaleOver jL_scaleUnder ++ (WT hT aT kT fT_tape dT_tape nT_tape iT_length iT_fault iT_place iT_kind iT_at iT_number jT_name iT_next ++ (WM hM aM kM iM_stands iM_variables iM_rows iM_goals iM_differents iM_cases fM_from fM_to fM_whole fM_ways iM_plainRows fM_plainRow fM_kept fM_goalOver fM_goalUnder fM_goalMax fM_different))) ∧ CE (va_A (WL hL aL kL hT hM xL_tree iL_names gL_key fL_kind fL_one fL_two fL_base iL_params fL_paramOver dL_paramOver nL_params fL_paramUnder dL_paramUnder nL_pu gL_over gL_under fL_bound iL_nameAt iL_startAt iL_steps jL_scaleOver jL_scaleUnder ++ (WT hT aT kT fT_tape dT_tape nT_tape iT_length iT_fault iT_place iT_kind iT_at iT_number jT_name iT_next ++ (WM hM aM kM iM_stands iM_variables iM_rows iM_goals iM_differents iM_cases fM_from fM_to fM_whole fM_ways iM_plainRows fM_plainRow fM_kept fM_goalOver fM_goalUnder fM_goalMax fM_different))) sz) U U.heap)) (va_Qi (fun (r : Int32) (u : (Int64) × (Int64) × (Int32) × (Int32) × (Nat → Int32)) => True) (fun (u : (Int64) × (Int64) × (Int32) × (Int32) × (Nat → Int32)) t => va_P (dC, dI) vwCl (WL hL aL kL hT hM xL_tree iL_names gL_key fL_kind fL_one fL_two fL_base iL_params fL_paramOver dL_paramOver nL_params fL_paramUnder dL_paramUnder nL_pu gL_over gL_under fL_bound iL_nameAt iL_startAt iL_steps (u.1) (u.2.1) ++ (WT hT aT kT fT_tape dT_tape nT_tape iT_length (u.2.2.1) (u.2.2.2.1) iT_kind iT_at iT_number jT_name iT_next ++ (WM hM aM kM iM_stands iM_variables iM_rows iM_goals iM_differents iM_cases fM_from fM_to fM_whole fM_ways iM_plainRows fM_plainRow (u.2.2.2.2) fM_goalOver fM_goalUnder fM_goalMax fM_different))) t.heap ∧ va_D (va_A (WL hL aL kL hT hM xL_tree iL_names gL_key fL_kind fL_one fL_two fL_base iL_params fL_paramOver dL_paramOver nL_params fL_paramUnder dL_paramUnder nL_pu gL_over gL_under fL_bound iL_nameAt iL_startAt iL_steps jL_scaleOver jL_scaleUnder ++ (WT hT aT kT fT_tape dT_tape nT_tape iT_length iT_fault iT_place iT_kind iT_at iT_number jT_name iT_next ++ (WM hM aM kM iM_stands iM_variables iM_rows iM_goals iM_differents iM_cases fM_from fM_to fM_whole fM_ways iM_plainRows fM_plainRow fM_kept fM_goalOver fM_goalUnder fM_goalMax fM_different))) sz) (WL hL aL kL hT hM xL_tree iL_names gL_key fL_kind fL_one fL_two fL_base iL_params fL_paramOver dL_paramOver nL_params fL_paramUnder dL_paramUnder nL_pu gL_over gL_under fL_bound iL_nameAt iL_startAt iL_steps (u.1) (u.2.1) ++ (WT hT aT kT fT_tape dT_tape nT_tape iT_length (u.2.2.1) (u.2.2.2.1) iT_kind iT_at iT_number jT_name iT_next ++ (WM hM aM kM iM_stands iM_variables iM_rows iM_goals iM_differents iM_cases fM_from fM_to fM_whole fM_ways iM_plainRows fM_plainRow (u.2.2.2.2) fM_goalOver fM_goalUnder fM_goalMax fM_different))) ∧ t.heap.size = sz) (va_A (WL hL aL kL hT hM xL_tree iL_names gL_key fL_kind fL_one fL_two fL_base iL_params fL_paramOver dL_paramOver nL_params fL_paramUnder dL_paramUnder nL_pu gL_over gL_under fL_bound iL_nameAt iL_startAt iL_steps jL_scaleOver jL_scaleUnder ++ (WT hT aT kT fT_tape dT_tape nT_tape iT_length iT_fault iT_place iT_kind iT_at iT_number jT_name iT_next ++ (WM hM aM kM iM_stands iM_variables iM_rows iM_goals iM_differents iM_cases fM_from fM_to fM_whole fM_ways iM_plainRows fM_plainRow fM_kept fM_goalOver fM_goalUnder fM_goalMax fM_different))) sz)) (vx_X (fun (u : (Int64) × (Int64) × (Int32) × (Int32) × (Nat → Int32)) => True) (fun E (u : (Int64) × (Int64) × (Int32) × (Int32) × (Nat → Int32)) t => (E = "java/lang/IllegalArgumentException") ∧ va_P (dC, dI) vwCl (WL hL aL kL hT hM xL_tree iL_names gL_key fL_kind fL_one fL_two fL_base iL_params fL_paramOver dL_paramOver nL_params fL_paramUnder dL_paramUnder nL_pu gL_over gL_under fL_bound iL_nameAt iL_startAt iL_steps (u.1) (u.2.1) ++ (WT hT aT kT fT_tape dT_tape nT_tape iT_length (u.2.2.1) (u.2.2.2.1) iT_kind iT_at iT_number jT_name iT_next ++ (WM hM aM kM iM_stands iM_variables iM_rows iM_goals iM_differents iM_cases fM_from fM_to fM_whole fM_ways iM_plainRows fM_plainRow (u.2.2.2.2) fM_goalOver fM_goalUnder fM_goalMax fM_different))) t.heap ∧ va_D (va_A (WL hL aL kL hT hM xL_tree iL_names gL_key fL_kind fL_one fL_two fL_base iL_params fL_paramOver dL_paramOver nL_params fL_paramUnder dL_paramUnder nL_pu gL_over gL_under fL_bound iL_nameAt iL_startAt iL_steps jL_scaleOver jL_scaleUnder ++ (WT hT aT kT fT_tape dT_tape nT_tape iT_length iT_fault iT_place iT_kind iT_at iT_number jT_name iT_next ++ (WM hM aM kM iM_stands iM_variables iM_rows iM_goals iM_differents iM_cases fM_from fM_to fM_whole fM_ways iM_plainRows fM_plainRow fM_kept fM_goalOver fM_goalUnder fM_goalMax fM_different))) sz) (WL hL aL kL hT hM xL_tree iL_names gL_key fL_kind fL_one fL_two fL_base iL_params fL_paramOver dL_paramOver nL_params fL_paramUnder dL_paramUnder nL_pu gL_over gL_under fL_bound iL_nameAt iL_startAt iL_steps (u.1) (u.2.1) ++ (WT hT aT kT fT_tape dT_tape nT_tape iT_length (u.2.2.1) (u.2.2.2.1) iT_kind iT_at iT_number jT_name iT_next ++ (WM hM aM kM iM_stands iM_variables iM_rows iM_goals iM_differents iM_cases fM_from fM_to fM_whole fM_ways iM_plainRows fM_plainRow (u.2.2.2.2) fM_goalOver fM_goalUnder fM_goalMax fM_different)))) (va_A (WL hL aL kL hT hM xL_tree iL_names gL_key fL_kind fL_one fL_two fL_base iL_params fL_paramOver dL_paramOver nL_params fL_paramUnder dL_paramUnder nL_pu gL_over gL_under fL_bound iL_nameAt iL_startAt iL_steps jL_scaleOver jL_scaleUnder ++ (WT hT aT kT fT_tape dT_tape nT_tape iT_length iT_fault iT_place iT_kind iT_at iT_number jT_name iT_next ++ (WM hM aM kM iM_stands iM_variables iM_rows iM_goals iM_differents iM_cases fM_from fM_to fM_whole fM_ways iM_plainRows fM_plainRow fM_kept fM_goalOver fM_goalUnder fM_goalMax fM_different))) sz)) 1 6 (va_A (WL hL aL kL hT hM xL_tree iL_names gL_key fL_kind fL_one fL_two fL_base iL_params fL_paramOver dL_paramOver nL_params fL_paramUnder dL_paramUnder nL_pu gL_over gL_under fL_bound iL_nameAt iL_startAt iL_steps jL_scaleOver jL_scaleUnder ++ (WT hT aT kT fT_tape dT_tape nT_tape iT_length iT_fault iT_place iT_kind iT_at iT_number jT_name iT_next ++ (WM hM aM kM iM_stands iM_variables iM_rows iM_goals iM_differents iM_cases fM_from fM_to fM_whole fM_ways iM_plainRows fM_plainRow fM_kept fM_goalOver fM_goalUnder fM_goalMax fM_different))) sz) := by
  refine vx_ofW (cc := cX10_scaled) (maxL := 16) (ret := (some .int)) (by decide) rfl ?_
  intro p e s m args below meth c s₁ B hml htab hv
  obtain ⟨rfl, hsz, hP, hK, hD0, hE⟩ := hv
  have hx := B.exec
  have hb := B.bytes
  have hr := B.returns
  have hts := atoms_spec (ws := wsMX10_scaled) B.pre
  have hown : s.vm.findClass RX10 = some m.cls := findClass_of_methodNamed B.named
  have hlocks := B.notSynchronized
  subst hsz
  have hD := hD0.self (sz := s.heap.size)
  generalize hAe : va_A (WL hL aL kL hT hM xL_tree iL_names gL_key fL_kind fL_one fL_two fL_base iL_params fL_paramOver dL_paramOver nL_params fL_paramUnder dL_paramUnder nL_pu gL_over gL_under fL_bound iL_nameAt iL_startAt iL_steps jL_scaleOver jL_scaleUnder ++ (WT hT aT kT fT_tape dT_tape nT_tape iT_length iT_fault iT_place iT_kind iT_at iT_number jT_name iT_next ++ (WM hM aM kM iM_stands iM_variables iM_rows iM_goals iM_differents iM_cases fM_from fM_to fM_whole fM_ways iM_plainRows fM_plainRow fM_kept fM_goalOver fM_goalUnder fM_goalMax fM_different))) s.heap.size = A at hD hE ⊢
  have hA : ∀ q : Nat, s.heap.size ≤ q → A q := fun q h => by rw [← hAe]; exact Or.inr h
  have hS : va_S A s.heap s.heap [] := va_S.rf
  have hl := lv_entry ([.ref (hL 0), .int p1, .int p2, .int p3, .int p4]) (n := 16) (Nat.le_of_ble_eq_true rfl)
  rw [lg_entry_eq]
  generalize (lg_sl ([.ref (hL 0), .int p1, .int p2, .int p3, .int p4]) ++ List.replicate (16 - (lg_sl ([.ref (hL 0), .int p1, .int p2, .int p3, .int p4])).length) Slot.unset).toArray = ls at hl ⊢
  have hl : lv_has ls 16 [(0, .ref (hL 0)), (1, .int p1), (2, .int p2), (3, .int p3), (4, .int p4)] := hl
  refine lv_aload_n hx hb dX10_scaled_0 rfl (lv_at hl 0 rfl) ?_
  refine va_get (D := (dC, dI)) (ci := 10) (v := .ref (aL 7)) (C := RX10) (T := TX10) (N := 20) hx hb hts iwsMX10_scaled_in10 hown hK hP 0 rfl rfl 12 (by decide) (hts (.fieldLink RX10 36 "OptimaWorks$Worker" "over" "[J") (by decide +kernel)) (fun _ h9 => h9) rfl dX10_scaled_1 ?_
  refine lv_iload_n hx hb dX10_scaled_4 rfl (lv_at hl 3 rfl) ?_
  refine va_lald (cA := kL 7) (n := 360) (f := gL_over) hx hb hK hP 8 7 rfl rfl (vp_in_iff.mpr ⟨b_p3.1, (Int.lt_of_le_of_lt (b_p3.2) (by decide))⟩) dX10_scaled_5 ?_
  refine lv_topl (fun v1 hv1 => ?_)
  clear hv1
  refine va_mabs_long hx hb (by rw [hml]; exact hl.1.symm) hown (hts (.methodLink RX10 179 Lib.MathLoose.abs_long.x) (by decide +kernel)) (hts (.static Lib.MathLoose.abs_long.x) (by decide +kernel)) (hts (.initialized "java/lang/Math") (by decide +kernel)) (hts (.code Lib.MathLoose.abs_long.x Lib.MathLoose.abs_long.code 2 (some .long)) (by decide +kernel)) (by decide +kernel) (Nat.le_of_ble_eq_true rfl) (by decide +kernel) (by decide +kernel) dX10_scaled_6 ?_
  refine lv_topl (fun v2 hv2 => ?_)
  clear hv2
  refine lv_lstore hx hb dX10_scaled_9 hl (by decide) rfl (fun ls (hl : lv_has ls _ ([(5, .long v2), (0, .ref (hL 0)), (1, .int p1), (2, .int p2), (3, .int p3), (4, .int p4)])) => ?_)
  refine lv_lload hx hb dX10_scaled_11 (lv_at hl 0 rfl) ?_
  refine lv_lconst (v := 0) hx hb dX10_scaled_13 (by decide) ?_
  refine W.lcmp hx hb dX10_scaled_14 ?_
  refine lv_if_ne (tgt := 20) hx hb dX10_scaled_15 (by decide) (fun c_15 => ?_) (fun c_15 => ?_)
  · have t_15 : v2.toInt ≠ 0 := toL_ne c_15 rfl (by decide : (0 : Int64).toInt = 0)
    refine lv_iconst (v := 1) hx hb dX10_scaled_20 (by decide) ?_
    refine lv_istore hx hb dX10_scaled_21 hl (by decide) rfl (fun ls (hl : lv_has ls _ ([(7, .int 1), (5, .long v2), (0, .ref (hL 0)), (1, .int p1), (2, .int p2), (3, .int p3), (4, .int p4)])) => ?_)
    refine lv_aload_n hx hb dX10_scaled_23 rfl (lv_at hl 2 rfl) ?_
    refine va_get (D := (dC, dI)) (ci := 10) (v := .long jL_scaleOver) (C := RX10) (T := TX10) (N := 20) hx hb hts iwsMX10_scaled_in10 hown hK hP 0 rfl rfl 18 (by decide) (hts (.fieldLink RX10 155 "OptimaWorks$Worker" "scaleOver" "J") (by decide +kernel)) (fun _ h9 => h9) rfl dX10_scaled_24 ?_
    refine lv_lconst (v := 0) hx hb dX10_scaled_27 (by decide) ?_
    refine W.lcmp hx hb dX10_scaled_28 ?_
    refine W.cut (pc := 206) (fun H locs ls stk => ∃ (jL_scaleOver_j6 : Int64) (jL_scaleUnder_j6 : Int64) (fM_kept_j6 : Nat → Int32) (l7_j6 : Int32),  stk = [] ∧ va_P (dC, dI) vwCl (WL hL aL kL hT hM xL_tree iL_names gL_key fL_kind fL_one fL_two fL_base iL_params fL_paramOver dL_paramOver nL_params fL_paramUnder dL_paramUnder nL_pu gL_over gL_under fL_bound iL_nameAt iL_startAt iL_steps jL_scaleOver_j6 jL_scaleUnder_j6 ++ (WT hT aT kT fT_tape dT_tape nT_tape iT_length iT_fault iT_place iT_kind iT_at iT_number jT_name iT_next ++ (WM hM aM kM iM_stands iM_variables iM_rows iM_goals iM_differents iM_cases fM_from fM_to fM_whole fM_ways iM_plainRows fM_plainRow fM_kept_j6 fM_goalOver fM_goalUnder fM_goalMax fM_different))) H ∧ va_D A (WL hL aL kL hT hM xL_tree iL_names gL_key fL_kind fL_one fL_two fL_base iL_params fL_paramOver dL_paramOver nL_params fL_paramUnder dL_paramUnder nL_pu gL_over gL_under fL_bound iL_nameAt iL_startAt iL_steps jL_scaleOver_j6 jL_scaleUnder_j6 ++ (WT hT aT kT fT_tape dT_tape nT_tape iT_length iT_fault iT_place iT_kind iT_at iT_number jT_name iT_next ++ (WM hM aM kM iM_stands iM_variables iM_rows iM_goals iM_differents iM_cases fM_from fM_to fM_whole fM_ways iM_plainRows fM_plainRow fM_kept_j6 fM_goalOver fM_goalUnder fM_goalMax fM_different))) ∧ va_S A s.heap H locs ∧ lv_has ls 16 [(7, .int l7_j6), (5, .long v2), (0, .ref (hL 0)), (1, .int p1), (2, .int p2), (3, .int p3), (4, .int p4)]) (fun join6 => ?_) ?_
    · refine lv_if_ne (tgt := 51) hx hb dX10_scaled_29 (by decide) (fun c_29 => ?_) (fun c_29 => ?_)
      · have t_29 : jL_scaleOver.toInt ≠ 0 := toL_ne c_29 rfl (by decide : (0 : Int64).toInt = 0)
        refine lv_aload_n hx hb dX10_scaled_51 rfl (lv_at hl 2 rfl) ?_
        refine va_get (D := (dC, dI)) (ci := 10) (v := .long jL_scaleOver) (C := RX10) (T := TX10) (N := 20) hx hb hts iwsMX10_scaled_in10 hown hK hP 0 rfl rfl 18 (by decide) (hts (.fieldLink RX10 155 "OptimaWorks$Worker" "scaleOver" "J") (by decide +kernel)) (fun _ h9 => h9) rfl dX10_scaled_52 ?_
        refine lv_aload_n hx hb dX10_scaled_55 rfl (lv_at hl 2 rfl) ?_
        refine va_get (D := (dC, dI)) (ci := 10) (v := .ref (aL 8)) (C := RX10) (T := TX10) (N := 20) hx hb hts iwsMX10_scaled_in10 hown hK hP 0 rfl rfl 13 (by decide) (hts (.fieldLink RX10 39 "OptimaWorks$Worker" "under" "[J") (by decide +kernel)) (fun _ h9 => h9) rfl dX10_scaled_56 ?_
        refine lv_iload_n hx hb dX10_scaled_59 rfl (lv_at hl 5 rfl) ?_
        refine va_lald (cA := kL 8) (n := 360) (f := gL_under) hx hb hK hP 9 8 rfl rfl (vp_in_iff.mpr ⟨b_p3.1, (Int.lt_of_le_of_lt (b_p3.2) (by decide))⟩) dX10_scaled_60 ?_
        refine lv_topl (fun v32 hv32 => ?_)
        clear hv32
        have hFc := noneFree hS hA
        refine va_calll (va_runS (As := [.long jL_scaleOver, .long v32]) (rest := []) ⟨hx, hb, hml, hown, hts⟩ (m_X10_divisor l dC dI jL_scaleOver v32 s.heap.size) (va_cwS 2 hts gwsMX10_scaled_0 rfl rfl rfl (by decide +kernel) ⟨by decide +kernel, by decide +kernel⟩) ⟨fun a U g mk q => by obtain ⟨q0, q1, qP, qK, qD⟩ := q; exact ⟨q0, q1, qP, va_K.moved (u := U) (U := U.calling g mk a) (Vm.Alike.refl U.vm) qK, qD⟩, fun U hU9 hW => ⟨rfl, by rw [hU9], by rw [hU9]; exact nilP, va_K.moved hW.alike (hK.sub (tys' := []) [] rfl), nilD⟩⟩ rfl rfl hl.1 rfl (lv_room (Nat.le_of_ble_eq_true rfl)) dX10_scaled_61 (by decide +kernel)) hS (fun q _ h => hFc q h) hFc (fun r33 u t9_ H1 locs ht hvm hw9 hB9 hz1 hk1 hS => ?_)
        have f33_0 := hw9
        try dsimp only at f33_0
        clear hB9
        have hP := keepAll hP hk1
        generalize H1 = H at hP hS ⊢
        have hP : va_P (dC, dI) vwCl (WL hL aL kL hT hM xL_tree iL_names gL_key fL_kind fL_one fL_two fL_base iL_params fL_paramOver dL_paramOver nL_params fL_paramUnder dL_paramUnder nL_pu gL_over gL_under fL_bound iL_nameAt iL_startAt iL_steps jL_scaleOver jL_scaleUnder ++ (WT hT aT kT fT_tape dT_tape nT_tape iT_length iT_fault iT_place iT_kind iT_at iT_number jT_name iT_next ++ (WM hM aM kM iM_stands iM_variables iM_rows iM_goals iM_differents iM_cases fM_from fM_to fM_whole fM_ways iM_plainRows fM_plainRow fM_kept fM_goalOver fM_goalUnder fM_goalMax fM_different))) H := hP
        have hD : va_D A (WL hL aL kL hT hM xL_tree iL_names gL_key fL_kind fL_one fL_two fL_base iL_params fL_paramOver dL_paramOver nL_params fL_paramUnder dL_paramUnder nL_pu gL_over gL_under fL_bound iL_nameAt iL_startAt iL_steps jL_scaleOver jL_scaleUnder ++ (WT hT aT kT fT_tape dT_tape nT_tape iT_length iT_fault iT_place iT_kind iT_at iT_number jT_name iT_next ++ (WM hM aM kM iM_stands iM_variables iM_rows iM_goals iM_differents iM_cases fM_from fM_to fM_whole fM_ways iM_plainRows fM_plainRow fM_kept fM_goalOver fM_goalUnder fM_goalMax fM_different))) := hD
        refine lv_lstore hx hb dX10_scaled_64 hl (by decide) rfl (fun ls (hl : lv_has ls _ ([(8, .long r33), (7, .int 1), (5, .long v2), (0, .ref (hL 0)), (1, .int p1), (2, .int p2), (3, .int p3), (4, .int p4)])) => ?_)
        refine lv_lload hx hb dX10_scaled_66 (lv_at hl 2 rfl) ?_
        refine lv_aload_n hx hb dX10_scaled_68 rfl (lv_at hl 3 rfl) ?_
        refine va_get (D := (dC, dI)) (ci := 10) (v := .long jL_scaleUnder) (C := RX10) (T := TX10) (N := 20) hx hb hts iwsMX10_scaled_in10 hown hK hP 0 rfl rfl 19 (by decide) (hts (.fieldLink RX10 159 "OptimaWorks$Worker" "scaleUnder" "J") (by decide +kernel)) (fun _ h9 => h9) rfl dX10_scaled_69 ?_
        have hFc := noneFree hS hA
        refine va_calll (va_runS (As := [.long v2, .long jL_scaleUnder]) (rest := []) ⟨hx, hb, hml, hown, hts⟩ (m_X10_divisor l dC dI v2 jL_scaleUnder H.size) (va_cwS 2 hts gwsMX10_scaled_0 rfl rfl rfl (by decide +kernel) ⟨by decide +kernel, by decide +kernel⟩) ⟨fun a U g mk q => by obtain ⟨q0, q1, qP, qK, qD⟩ := q; exact ⟨q0, q1, qP, va_K.moved (u := U) (U := U.calling g mk a) (Vm.Alike.refl U.vm) qK, qD⟩, fun U hU9 hW => ⟨rfl, by rw [hU9], by rw [hU9]; exact nilP, va_K.moved hW.alike (hK.sub (tys' := []) [] rfl), nilD⟩⟩ rfl rfl hl.1 rfl (lv_room (Nat.le_of_ble_eq_true rfl)) dX10_scaled_72 (by decide +kernel)) hS (fun q _ h => hFc q h) hFc (fun r34 u t9_ H1 locs ht hvm hw9 hB9 hz1 hk1 hS => ?_)
        have f34_0 := hw9
        try dsimp only at f34_0
        clear hB9
        have hP := keepAll hP hk1
        generalize H1 = H at hP hS ⊢
        have hP : va_P (dC, dI) vwCl (WL hL aL kL hT hM xL_tree iL_names gL_key fL_kind fL_one fL_two fL_base iL_params fL_paramOver dL_paramOver nL_params fL_paramUnder dL_paramUnder nL_pu gL_over gL_under fL_bound iL_nameAt iL_startAt iL_steps jL_scaleOver jL_scaleUnder ++ (WT hT aT kT fT_tape dT_tape nT_tape iT_length iT_fault iT_place iT_kind iT_at iT_number jT_name iT_next ++ (WM hM aM kM iM_stands iM_variables iM_rows iM_goals iM_differents iM_cases fM_from fM_to fM_whole fM_ways iM_plainRows fM_plainRow fM_kept fM_goalOver fM_goalUnder fM_goalMax fM_different))) H := hP
        have hD : va_D A (WL hL aL kL hT hM xL_tree iL_names gL_key fL_kind fL_one fL_two fL_base iL_params fL_paramOver dL_paramOver nL_params fL_paramUnder dL_paramUnder nL_pu gL_over gL_under fL_bound iL_nameAt iL_startAt iL_steps jL_scaleOver jL_scaleUnder ++ (WT hT aT kT fT_tape dT_tape nT_tape iT_length iT_fault iT_place iT_kind iT_at iT_number jT_name iT_next ++ (WM hM aM kM iM_stands iM_variables iM_rows iM_goals iM_differents iM_cases fM_from fM_to fM_whole fM_ways iM_plainRows fM_plainRow fM_kept fM_goalOver fM_goalUnder fM_goalMax fM_different))) := hD
        refine lv_lstore hx hb dX10_scaled_75 hl (by decide) rfl (fun ls (hl : lv_has ls _ ([(10, .long r34), (8, .long r33), (7, .int 1), (5, .long v2), (0, .ref (hL 0)), (1, .int p1), (2, .int p2), (3, .int p3), (4, .int p4)])) => ?_)
        refine lv_iload_n hx hb dX10_scaled_77 rfl (lv_at hl 7 rfl) ?_
        refine W.cut (pc := 88) (fun H locs ls stk => ∃ (k0_j7 : Int32), (99 ≤ k0_j7.toInt ∧ k0_j7.toInt ≤ 99999) ∧  stk = [.int k0_j7] ∧ va_P (dC, dI) vwCl (WL hL aL kL hT hM xL_tree iL_names gL_key fL_kind fL_one fL_two fL_base iL_params fL_paramOver dL_paramOver nL_params fL_paramUnder dL_paramUnder nL_pu gL_over gL_under fL_bound iL_nameAt iL_startAt iL_steps jL_scaleOver jL_scaleUnder ++ (WT hT aT kT fT_tape dT_tape nT_tape iT_length iT_fault iT_place iT_kind iT_at iT_number jT_name iT_next ++ (WM hM aM kM iM_stands iM_variables iM_rows iM_goals iM_differents iM_cases fM_from fM_to fM_whole fM_ways iM_plainRows fM_plainRow fM_kept fM_goalOver fM_goalUnder fM_goalMax fM_different))) H ∧ va_D A (WL hL aL kL hT hM xL_tree iL_names gL_key fL_kind fL_one fL_two fL_base iL_params fL_paramOver dL_paramOver nL_params fL_paramUnder dL_paramUnder nL_pu gL_over gL_under fL_bound iL_nameAt iL_startAt iL_steps jL_scaleOver jL_scaleUnder ++ (WT hT aT kT fT_tape dT_tape nT_tape iT_length iT_fault iT_place iT_kind iT_at iT_number jT_name iT_next ++ (WM hM aM kM iM_stands iM_variables iM_rows iM_goals iM_differents iM_cases fM_from fM_to fM_whole fM_ways iM_plainRows fM_plainRow fM_kept fM_goalOver fM_goalUnder fM_goalMax fM_different))) ∧ va_S A s.heap H locs ∧ lv_has ls 16 [(10, .long r34), (8, .long r33), (7, .int 1), (5, .long v2), (0, .ref (hL 0)), (1, .int p1), (2, .int p2), (3, .int p3), (4, .int p4)]) (fun join7 => ?_) ?_
        · refine lv_if_ne (tgt := 86) hx hb dX10_scaled_78 (by decide) (fun c_78 => ?_) (fun c_78 => ?_)
          · have t_78 : p3.toInt ≠ 0 := toI_ne c_78 rfl (by decide : (0 : Int32).toInt = 0)
            refine lv_bipush (v := 99) hx hb dX10_scaled_86 (by decide) ?_
            have hl : lv_has _ _ ([(10, .long r34), (8, .long r33), (7, .int 1), (5, .long v2), (0, .ref (hL 0)), (1, .int p1), (2, .int p2), (3, .int p3), (4, .int p4)]) := lv_sub hl [0, 1, 2, 3, 4, 5, 6, 7, 8] rfl
            exact join7 _ _ _ _ ⟨99, (show 99 ≤ (99 : Int32).toInt ∧ (99 : Int32).toInt ≤ 99999 from by decide), rfl, hP, hD, hS, hl⟩
          · have t_78 : p3.toInt = 0 := toI_nne c_78 rfl (by decide : (0 : Int32).toInt = 0)
            refine lv_ldc (v := 99999) hx hb hown (hts (.constant RX10 187 99999) (by decide +kernel)) dX10_scaled_81 ?_
            refine lv_goto (tgt := 88) hx hb dX10_scaled_83 (by decide) ?_
            have hl : lv_has _ _ ([(10, .long r34), (8, .long r33), (7, .int 1), (5, .long v2), (0, .ref (hL 0)), (1, .int p1), (2, .int p2), (3, .int p3), (4, .int p4)]) := lv_sub hl [0, 1, 2, 3, 4, 5, 6, 7, 8] rfl
            exact join7 _ _ _ _ ⟨99999, (show 99 ≤ (99999 : Int32).toInt ∧ (99999 : Int32).toInt ≤ 99999 from by decide), rfl, hP, hD, hS, hl⟩
        · rintro H locs ls stk ⟨k0_j7, b_k0_j7, rfl, hP, hD, hS, hl⟩
          refine lv_istore hx hb dX10_scaled_88 hl (by decide) rfl (fun ls (hl : lv_has ls _ ([(12, .int k0_j7), (10, .long r34), (8, .long r33), (7, .int 1), (5, .long v2), (0, .ref (hL 0)), (1, .int p1), (2, .int p2), (3, .int p3), (4, .int p4)])) => ?_)
          refine lv_aload_n hx hb dX10_scaled_90 rfl (lv_at hl 5 rfl) ?_
          refine va_get (D := (dC, dI)) (ci := 10) (v := .long jL_scaleOver) (C := RX10) (T := TX10) (N := 20) hx hb hts iwsMX10_scaled_in10 hown hK hP 0 rfl rfl 18 (by decide) (hts (.fieldLink RX10 155 "OptimaWorks$Worker" "scaleOver" "J") (by decide +kernel)) (fun _ h9 => h9) rfl dX10_scaled_91 ?_
          refine lv_lload hx hb dX10_scaled_94 (lv_at hl 2 rfl) ?_
          refine lv_ldiv hx hb dX10_scaled_96 (nz_l (x := r33) rfl (by omega)) ?_
          refine lv_topl (fun v35 hv35 => ?_)
          clear hv35
          refine lv_lload hx hb dX10_scaled_97 (lv_at hl 4 rfl) ?_
          refine lv_lload hx hb dX10_scaled_99 (lv_at hl 1 rfl) ?_
          refine lv_ldiv hx hb dX10_scaled_101 (nz_l (x := r34) rfl (by omega)) ?_
          refine lv_topl (fun v36 hv36 => ?_)
          clear hv36
          refine lv_iload hx hb dX10_scaled_102 (lv_at hl 0 rfl) ?_
          have hFc := noneFree hS hA
          refine va_calli (va_runS (As := [.long v35, .long v36, .int k0_j7]) (rest := []) ⟨hx, hb, hml, hown, hts⟩ (m_X10_product l dC dI v35 v36 k0_j7 H.size) (va_cwS 3 hts gwsMX10_scaled_1 rfl rfl rfl (by decide +kernel) ⟨by decide +kernel, by decide +kernel⟩) ⟨fun a U g mk q => by obtain ⟨q0, q1, qP, qK, qD⟩ := q; exact ⟨q0, q1, qP, va_K.moved (u := U) (U := U.calling g mk a) (Vm.Alike.refl U.vm) qK, qD⟩, fun U hU9 hW => ⟨rfl, by rw [hU9], by rw [hU9]; exact nilP, va_K.moved hW.alike (hK.sub (tys' := []) [] rfl), nilD⟩⟩ rfl rfl hl.1 rfl (lv_room (Nat.le_of_ble_eq_true rfl)) dX10_scaled_104 (by decide +kernel)) hS (fun q _ h => hFc q h) hFc (fun r37 u t9_ H1 locs ht hvm hw9 hB9 hz1 hk1 hS => ?_)
          clear hw9
          clear hB9
          have hP := keepAll hP hk1
          generalize H1 = H at hP hS ⊢
          have hP : va_P (dC, dI) vwCl (WL hL aL kL hT hM xL_tree iL_names gL_key fL_kind fL_one fL_two fL_base iL_params fL_paramOver dL_paramOver nL_params fL_paramUnder dL_paramUnder nL_pu gL_over gL_under fL_bound iL_nameAt iL_startAt iL_steps jL_scaleOver jL_scaleUnder ++ (WT hT aT kT fT_tape dT_tape nT_tape iT_length iT_fault iT_place iT_kind iT_at iT_number jT_name iT_next ++ (WM hM aM kM iM_stands iM_variables iM_rows iM_goals iM_differents iM_cases fM_from fM_to fM_whole fM_ways iM_plainRows fM_plainRow fM_kept fM_goalOver fM_goalUnder fM_goalMax fM_different))) H := hP
          have hD : va_D A (WL hL aL kL hT hM xL_tree iL_names gL_key fL_kind fL_one fL_two fL_base iL_params fL_paramOver dL_paramOver nL_params fL_paramUnder dL_paramUnder nL_pu gL_over gL_under fL_bound iL_nameAt iL_startAt iL_steps jL_scaleOver jL_scaleUnder ++ (WT hT aT kT fT_tape dT_tape nT_tape iT_length iT_fault iT_place iT_kind iT_at iT_number jT_name iT_next ++ (WM hM aM kM iM_stands iM_variables iM_rows iM_goals iM_differents iM_cases fM_from fM_to fM_whole fM_ways iM_plainRows fM_plainRow fM_kept fM_goalOver fM_goalUnder fM_goalMax fM_different))) := hD
          refine lv_istore hx hb dX10_scaled_107 hl (by decide) rfl (fun ls (hl : lv_has ls _ ([(7, .int r37), (12, .int k0_j7), (10, .long r34), (8, .long r33), (5, .long v2), (0, .ref (hL 0)), (1, .int p1), (2, .int p2), (3, .int p3), (4, .int p4)])) => ?_)
          refine lv_aload_n hx hb dX10_scaled_109 rfl (lv_at hl 5 rfl) ?_
          refine va_get (D := (dC, dI)) (ci := 10) (v := .long jL_scaleUnder) (C := RX10) (T := TX10) (N := 20) hx hb hts iwsMX10_scaled_in10 hown hK hP 0 rfl rfl 19 (by decide) (hts (.fieldLink RX10 159 "OptimaWorks$Worker" "scaleUnder" "J") (by decide +kernel)) (fun _ h9 => h9) rfl dX10_scaled_110 ?_
          refine lv_lload hx hb dX10_scaled_113 (lv_at hl 2 rfl) ?_
          refine lv_ldiv hx hb dX10_scaled_115 (nz_l (x := r34) rfl (by omega)) ?_
          refine lv_topl (fun v38 hv38 => ?_)
          clear hv38
          refine lv_aload_n hx hb dX10_scaled_116 rfl (lv_at hl 5 rfl) ?_
          refine va_get (D := (dC, dI)) (ci := 10) (v := .ref (aL 8)) (C := RX10) (T := TX10) (N := 20) hx hb hts iwsMX10_scaled_in10 hown hK hP 0 rfl rfl 13 (by decide) (hts (.fieldLink RX10 39 "OptimaWorks$Worker" "under" "[J") (by decide +kernel)) (fun _ h9 => h9) rfl dX10_scaled_117 ?_
          refine lv_iload_n hx hb dX10_scaled_120 rfl (lv_at hl 8 rfl) ?_
          refine va_lald (cA := kL 8) (n := 360) (f := gL_under) hx hb hK hP 9 8 rfl rfl (vp_in_iff.mpr ⟨b_p3.1, (Int.lt_of_le_of_lt (b_p3.2) (by decide))⟩) dX10_scaled_121 ?_
          refine lv_topl (fun v39 hv39 => ?_)
          clear hv39
          refine lv_lload hx hb dX10_scaled_122 (lv_at hl 3 rfl) ?_
          refine lv_ldiv hx hb dX10_scaled_124 (nz_l (x := r33) rfl (by omega)) ?_
          refine lv_topl (fun v40 hv40 => ?_)
          clear hv40
          refine lv_bipush (v := 99) hx hb dX10_scaled_125 (by decide) ?_
          have hFc := noneFree hS hA
          refine va_calli (va_runS (As := [.long v38, .long v40, .int 99]) (rest := []) ⟨hx, hb, hml, hown, hts⟩ (m_X10_product l dC dI v38 v40 99 H.size) (va_cwS 3 hts gwsMX10_scaled_1 rfl rfl rfl (by decide +kernel) ⟨by decide +kernel, by decide +kernel⟩) ⟨fun a U g mk q => by obtain ⟨q0, q1, qP, qK, qD⟩ := q; exact ⟨q0, q1, qP, va_K.moved (u := U) (U := U.calling g mk a) (Vm.Alike.refl U.vm) qK, qD⟩, fun U hU9 hW => ⟨rfl, by rw [hU9], by rw [hU9]; exact nilP, va_K.moved hW.alike (hK.sub (tys' := []) [] rfl), nilD⟩⟩ rfl rfl hl.1 rfl (lv_room (Nat.le_of_ble_eq_true rfl)) dX10_scaled_127 (by decide +kernel)) hS (fun q _ h => hFc q h) hFc (fun r41 u t9_ H1 locs ht hvm hw9 hB9 hz1 hk1 hS => ?_)
          clear hw9
          clear hB9
          have hP := keepAll hP hk1
          generalize H1 = H at hP hS ⊢
          have hP : va_P (dC, dI) vwCl (WL hL aL kL hT hM xL_tree iL_names gL_key fL_kind fL_one fL_two fL_base iL_params fL_paramOver dL_paramOver nL_params fL_paramUnder dL_paramUnder nL_pu gL_over gL_under fL_bound iL_nameAt iL_startAt iL_steps jL_scaleOver jL_scaleUnder ++ (WT hT aT kT fT_tape dT_tape nT_tape iT_length iT_fault iT_place iT_kind iT_at iT_number jT_name iT_next ++ (WM hM aM kM iM_stands iM_variables iM_rows iM_goals iM_differents iM_cases fM_from fM_to fM_whole fM_ways iM_plainRows fM_plainRow fM_kept fM_goalOver fM_goalUnder fM_goalMax fM_different))) H := hP
          have hD : va_D A (WL hL aL kL hT hM xL_tree iL_names gL_key fL_kind fL_one fL_two fL_base iL_params fL_paramOver dL_paramOver nL_params fL_paramUnder dL_paramUnder nL_pu gL_over gL_under fL_bound iL_nameAt iL_startAt iL_steps jL_scaleOver jL_scaleUnder ++ (WT hT aT kT fT_tape dT_tape nT_tape iT_length iT_fault iT_place iT_kind iT_at iT_number jT_name iT_next ++ (WM hM aM kM iM_stands iM_variables iM_rows iM_goals iM_differents iM_cases fM_from fM_to fM_whole fM_ways iM_plainRows fM_plainRow fM_kept fM_goalOver fM_goalUnder fM_goalMax fM_different))) := hD
          refine lv_istore hx hb dX10_scaled_130 hl (by decide) rfl (fun ls (hl : lv_has ls _ ([(13, .int r41), (7, .int r37), (12, .int k0_j7), (10, .long r34), (8, .long r33), (5, .long v2), (0, .ref (hL 0)), (1, .int p1), (2, .int p2), (3, .int p3), (4, .int p4)])) => ?_)
          refine lv_iload hx hb dX10_scaled_132 (lv_at hl 1 rfl) ?_
          refine lv_iload hx hb dX10_scaled_134 (lv_at hl 2 rfl) ?_
          refine lv_icmp_gt (tgt := 157) hx hb dX10_scaled_136 (by decide) (fun c_136 => ?_) (fun c_136 => ?_)
          · have t_136 : r37.toInt > k0_j7.toInt := toI_gt c_136 rfl rfl
            refine lv_aload_n hx hb dX10_scaled_157 rfl (lv_at hl 6 rfl) ?_
            refine va_get (D := (dC, dI)) (ci := 10) (v := .ref (hT 0)) (C := RX10) (T := TX10) (N := 20) hx hb hts iwsMX10_scaled_in10 hown hK hP 0 rfl rfl 0 (by decide) (hts (.fieldLink RX10 47 "OptimaWorks$Worker" "words" "LOptimaWorks$Words;") (by decide +kernel)) (fun _ h9 => h9) rfl dX10_scaled_158 ?_
            refine lv_bipush (v := 9) hx hb dX10_scaled_161 (by decide) ?_
            refine lv_iload hx hb dX10_scaled_163 (lv_at hl 10 rfl) ?_
            have hPc : va_P (dC, dI) vwCl (WT hT aT kT fT_tape dT_tape nT_tape iT_length iT_fault iT_place iT_kind iT_at iT_number jT_name iT_next) _ := hP.sub [11, 12] rfl
            have hDc : va_D _ (WT hT aT kT fT_tape dT_tape nT_tape iT_length iT_fault iT_place iT_kind iT_at iT_number jT_name iT_next) := hD.sub [11, 12] (by decide) rfl
            have hKc : va_K (dC, dI) vwCl (tT kT) _ := hK.sub [10] rfl
            have hFc := va_free (wc := WT hT aT kT fT_tape dT_tape nT_tape iT_length iT_fault iT_place iT_kind iT_at iT_number jT_name iT_next) hD hS hA [11, 12] rfl
            refine vx_callv (vx_runV (As := [.int 9, .int p4]) (rest := []) ⟨hx, hb, hml, hown, hts⟩ (m_X9_fail l hst dC dI hT aT kT fT_tape dT_tape nT_tape iT_length iT_fault iT_place iT_kind iT_at iT_number jT_name iT_next 9 p4 b_fT_tape (by first | exact b_nT_tape | with_reducible assumption | exact ⟨by omega, by omega⟩ | assumption) (b_iT_length) (b_iT_at) (b_iT_number) (b_iT_next) (by first | with_reducible assumption | omega | assumption) H.size) (cwV 2 hts gwsMX10_scaled_2 rfl rfl rfl hd_yX9_fail_RX9 (by decide +kernel)) (fz_preE (va_recv hK hP (ci := 9) (q0 := 11) rfl rfl) hPc hKc hDc (fun a U g mk qE => qE.call) (fun U hU9 hW => by rw [hU9]; exact (((hE : CE A s s.heap).kept hS.2.1).narrow (fun q h => hFc q h)).warm hW)) rfl rfl hl.1 rfl (lv_room (Nat.le_of_ble_eq_true rfl)) dX10_scaled_165 (by decide +kernel)) hS (fun q _ h => hFc q h) hFc (fun q _ h => hFc q h) (fun E ce q9 u t9_ H locs ht hvm hw9 hB9 hz1 hk1 hS hc1 hc2 hc3 => ?_) (fun u t9_ H1 locs ht hvm hw9 hB9 hz1 hk1 hS => ?_)
            · revert u hw9 hB9
              refine fz_p2 ?_
              intro iT_fault_46 iT_place_46 hw9 hB9
              try dsimp only at hw9 hB9
              revert hB9
              refine fz_a2 ?_
              intro hEx hB9
              clear hw9
              obtain ⟨hP, hD⟩ := va_join (wr := [(hL 0, .inr (10, [.ref (hT 0), .ref (hM 0), xL_tree, .int iL_names, .ref (aL 0), .ref (aL 1), .ref (aL 2), .ref (aL 3), .ref (aL 4), .int iL_params, .ref dL_paramOver, .ref dL_paramUnder, .ref (aL 7), .ref (aL 8), .ref (aL 9), .int iL_nameAt, .int iL_startAt, .int iL_steps, .long jL_scaleOver, .long jL_scaleUnder])), (aL 0, .inl (kL 0, 40, .inr (.inl gL_key))), (aL 1, .inl (kL 1, 40, .inl fL_kind)), (aL 2, .inl (kL 2, 40, .inl fL_one)), (aL 3, .inl (kL 3, 40, .inl fL_two)), (aL 4, .inl (kL 4, 40, .inl fL_base)), (dL_paramOver, .inl (kL 5, nL_params, .inl fL_paramOver)), (dL_paramUnder, .inl (kL 6, nL_pu, .inl fL_paramUnder)), (aL 7, .inl (kL 7, 360, .inr (.inl gL_over))), (aL 8, .inl (kL 8, 360, .inr (.inl gL_under))), (aL 9, .inl (kL 9, 64, .inl fL_bound)), (hM 0, .inr (1, [.int iM_stands, .int iM_variables, .int iM_rows, .int iM_goals, .int iM_differents, .int iM_cases, .ref (aM 0), .ref (aM 1), .ref (aM 2), .ref (aM 3), .int iM_plainRows, .ref (aM 4), .ref (aM 5), .ref (aM 6), .ref (aM 7), .ref (aM 8), .ref (aM 9)])), (aM 0, .inl (kM 0, 8, .inl fM_from)), (aM 1, .inl (kM 1, 8, .inl fM_to)), (aM 2, .inl (kM 2, 8, .inl fM_whole)), (aM 3, .inl (kM 3, 12, .inl fM_ways)), (aM 4, .inl (kM 4, 12, .inl fM_plainRow)), (aM 5, .inl (kM 5, 360, .inl fM_kept)), (aM 6, .inl (kM 6, 27, .inl fM_goalOver)), (aM 7, .inl (kM 7, 27, .inl fM_goalUnder)), (aM 8, .inl (kM 8, 3, .inl fM_goalMax)), (aM 9, .inl (kM 9, 8, .inl fM_different))]) (w1 := WT hT aT kT fT_tape dT_tape nT_tape iT_length iT_fault_46 iT_place_46 iT_kind iT_at iT_number jT_name iT_next) hP hD [11, 12] [0, 1, 2, 3, 4, 5, 6, 7, 8, 9, 10, 13, 14, 15, 16, 17, 18, 19, 20, 21, 22, 23] rfl rfl (by decide) (by decide) hk1 hFc (fz_P ht hB9.1) hB9.2
              have hP : va_P (dC, dI) vwCl (WL hL aL kL hT hM xL_tree iL_names gL_key fL_kind fL_one fL_two fL_base iL_params fL_paramOver dL_paramOver nL_params fL_paramUnder dL_paramUnder nL_pu gL_over gL_under fL_bound iL_nameAt iL_startAt iL_steps jL_scaleOver jL_scaleUnder ++ (WT hT aT kT fT_tape dT_tape nT_tape iT_length iT_fault_46 iT_place_46 iT_kind iT_at iT_number jT_name iT_next ++ (WM hM aM kM iM_stands iM_variables iM_rows iM_goals iM_differents iM_cases fM_from fM_to fM_whole fM_ways iM_plainRows fM_plainRow fM_kept fM_goalOver fM_goalUnder fM_goalMax fM_different))) H := hP.sub [0, 1, 2, 3, 4, 5, 6, 7, 8, 9, 10, 22, 23, 11, 12, 13, 14, 15, 16, 17, 18, 19, 20, 21] rfl
              have hD : va_D A (WL hL aL kL hT hM xL_tree iL_names gL_key fL_kind fL_one fL_two fL_base iL_params fL_paramOver dL_paramOver nL_params fL_paramUnder dL_paramUnder nL_pu gL_over gL_under fL_bound iL_nameAt iL_startAt iL_steps jL_scaleOver jL_scaleUnder ++ (WT hT aT kT fT_tape dT_tape nT_tape iT_length iT_fault_46 iT_place_46 iT_kind iT_at iT_number jT_name iT_next ++ (WM hM aM kM iM_stands iM_variables iM_rows iM_goals iM_differents iM_cases fM_from fM_to fM_whole fM_ways iM_plainRows fM_plainRow fM_kept fM_goalOver fM_goalUnder fM_goalMax fM_different))) := hD.sub [0, 1, 2, 3, 4, 5, 6, 7, 8, 9, 10, 22, 23, 11, 12, 13, 14, 15, 16, 17, 18, 19, 20, 21] (by decide) rfl
              exact vx_out (fun x hx9 => (htab x hx9).elim) hlocks hc1 hc2 hc3 (fun t9_ ht hvm => ⟨(jL_scaleOver, jL_scaleUnder, iT_fault_46, iT_place_46, fM_kept), trivial, ⟨(by have h9 := hEx; exact h9), by rw [ht]; exact hP, hD⟩, hS.F ht⟩) hS.2.2 (by decide +kernel) (by decide +kernel)
            exact False.elim hw9
          · have t_136 : ¬ r37.toInt > k0_j7.toInt := toI_ngt c_136 rfl rfl
            refine lv_iload hx hb dX10_scaled_139 (lv_at hl 0 rfl) ?_
            refine lv_bipush (v := 99) hx hb dX10_scaled_141 (by decide) ?_
            refine lv_icmp_gt (tgt := 157) hx hb dX10_scaled_143 (by decide) (fun c_143 => ?_) (fun c_143 => ?_)
            · have t_143 : r41.toInt > 99 := toI_gt c_143 rfl (by decide : (99 : Int32).toInt = 99)
              refine lv_aload_n hx hb dX10_scaled_157 rfl (lv_at hl 6 rfl) ?_
              refine va_get (D := (dC, dI)) (ci := 10) (v := .ref (hT 0)) (C := RX10) (T := TX10) (N := 20) hx hb hts iwsMX10_scaled_in10 hown hK hP 0 rfl rfl 0 (by decide) (hts (.fieldLink RX10 47 "OptimaWorks$Worker" "words" "LOptimaWorks$Words;") (by decide +kernel)) (fun _ h9 => h9) rfl dX10_scaled_158 ?_
              refine lv_bipush (v := 9) hx hb dX10_scaled_161 (by decide) ?_
              refine lv_iload hx hb dX10_scaled_163 (lv_at hl 10 rfl) ?_
              have hPc : va_P (dC, dI) vwCl (WT hT aT kT fT_tape dT_tape nT_tape iT_length iT_fault iT_place iT_kind iT_at iT_number jT_name iT_next) _ := hP.sub [11, 12] rfl
              have hDc : va_D _ (WT hT aT kT fT_tape dT_tape nT_tape iT_length iT_fault iT_place iT_kind iT_at iT_number jT_name iT_next) := hD.sub [11, 12] (by decide) rfl
              have hKc : va_K (dC, dI) vwCl (tT kT) _ := hK.sub [10] rfl
              have hFc := va_free (wc := WT hT aT kT fT_tape dT_tape nT_tape iT_length iT_fault iT_place iT_kind iT_at iT_number jT_name iT_next) hD hS hA [11, 12] rfl
              refine vx_callv (vx_runV (As := [.int 9, .int p4]) (rest := []) ⟨hx, hb, hml, hown, hts⟩ (m_X9_fail l hst dC dI hT aT kT fT_tape dT_tape nT_tape iT_length iT_fault iT_place iT_kind iT_at iT_number jT_name iT_next 9 p4 b_fT_tape (by first | exact b_nT_tape | with_reducible assumption | exact ⟨by omega, by omega⟩ | assumption) (b_iT_length) (b_iT_at) (b_iT_number) (b_iT_next) (by first | with_reducible assumption | omega | assumption) H.size) (cwV 2 hts gwsMX10_scaled_2 rfl rfl rfl hd_yX9_fail_RX9 (by decide +kernel)) (fz_preE (va_recv hK hP (ci := 9) (q0 := 11) rfl rfl) hPc hKc hDc (fun a U g mk qE => qE.call) (fun U hU9 hW => by rw [hU9]; exact (((hE : CE A s s.heap).kept hS.2.1).narrow (fun q h => hFc q h)).warm hW)) rfl rfl hl.1 rfl (lv_room (Nat.le_of_ble_eq_true rfl)) dX10_scaled_165 (by decide +kernel)) hS (fun q _ h => hFc q h) hFc (fun q _ h => hFc q h) (fun E ce q9 u t9_ H locs ht hvm hw9 hB9 hz1 hk1 hS hc1 hc2 hc3 => ?_) (fun u t9_ H1 locs ht hvm hw9 hB9 hz1 hk1 hS => ?_)
              · revert u hw9 hB9
                refine fz_p2 ?_
                intro iT_fault_50 iT_place_50 hw9 hB9
                try dsimp only at hw9 hB9
                revert hB9
                refine fz_a2 ?_
                intro hEx hB9
                clear hw9
                obtain ⟨hP, hD⟩ := va_join (wr := [(hL 0, .inr (10, [.ref (hT 0), .ref (hM 0), xL_tree, .int iL_names, .ref (aL 0), .ref (aL 1), .ref (aL 2), .ref (aL 3), .ref (aL 4), .int iL_params, .ref dL_paramOver, .ref dL_paramUnder, .ref (aL 7), .ref (aL 8), .ref (aL 9), .int iL_nameAt, .int iL_startAt, .int iL_steps, .long jL_scaleOver, .long jL_scaleUnder])), (aL 0, .inl (kL 0, 40, .inr (.inl gL_key))), (aL 1, .inl (kL 1, 40, .inl fL_kind)), (aL 2, .inl (kL 2, 40, .inl fL_one)), (aL 3, .inl (kL 3, 40, .inl fL_two)), (aL 4, .inl (kL 4, 40, .inl fL_base)), (dL_paramOver, .inl (kL 5, nL_params, .inl fL_paramOver)), (dL_paramUnder, .inl (kL 6, nL_pu, .inl fL_paramUnder)), (aL 7, .inl (kL 7, 360, .inr (.inl gL_over))), (aL 8, .inl (kL 8, 360, .inr (.inl gL_under))), (aL 9, .inl (kL 9, 64, .inl fL_bound)), (hM 0, .inr (1, [.int iM_stands, .int iM_variables, .int iM_rows, .int iM_goals, .int iM_differents, .int iM_cases, .ref (aM 0), .ref (aM 1), .ref (aM 2), .ref (aM 3), .int iM_plainRows, .ref (aM 4), .ref (aM 5), .ref (aM 6), .ref (aM 7), .ref (aM 8), .ref (aM 9)])), (aM 0, .inl (kM 0, 8, .inl fM_from)), (aM 1, .inl (kM 1, 8, .inl fM_to)), (aM 2, .inl (kM 2, 8, .inl fM_whole)), (aM 3, .inl (kM 3, 12, .inl fM_ways)), (aM 4, .inl (kM 4, 12, .inl fM_plainRow)), (aM 5, .inl (kM 5, 360, .inl fM_kept)), (aM 6, .inl (kM 6, 27, .inl fM_goalOver)), (aM 7, .inl (kM 7, 27, .inl fM_goalUnder)), (aM 8, .inl (kM 8, 3, .inl fM_goalMax)), (aM 9, .inl (kM 9, 8, .inl fM_different))]) (w1 := WT hT aT kT fT_tape dT_tape nT_tape iT_length iT_fault_50 iT_place_50 iT_kind iT_at iT_number jT_name iT_next) hP hD [11, 12] [0, 1, 2, 3, 4, 5, 6, 7, 8, 9, 10, 13, 14, 15, 16, 17, 18, 19, 20, 21, 22, 23] rfl rfl (by decide) (by decide) hk1 hFc (fz_P ht hB9.1) hB9.2
                have hP : va_P (dC, dI) vwCl (WL hL aL kL hT hM xL_tree iL_names gL_key fL_kind fL_one fL_two fL_base iL_params fL_paramOver dL_paramOver nL_params fL_paramUnder dL_paramUnder nL_pu gL_over gL_under fL_bound iL_nameAt iL_startAt iL_steps jL_scaleOver jL_scaleUnder ++ (WT hT aT kT fT_tape dT_tape nT_tape iT_length iT_fault_50 iT_place_50 iT_kind iT_at iT_number jT_name iT_next ++ (WM hM aM kM iM_stands iM_variables iM_rows iM_goals iM_differents iM_cases fM_from fM_to fM_whole fM_ways iM_plainRows fM_plainRow fM_kept fM_goalOver fM_goalUnder fM_goalMax fM_different))) H := hP.sub [0, 1, 2, 3, 4, 5, 6, 7, 8, 9, 10, 22, 23, 11, 12, 13, 14, 15, 16, 17, 18, 19, 20, 21] rfl
                have hD : va_D A (WL hL aL kL hT hM xL_tree iL_names gL_key fL_kind fL_one fL_two fL_base iL_params fL_paramOver dL_paramOver nL_params fL_paramUnder dL_paramUnder nL_pu gL_over gL_under fL_bound iL_nameAt iL_startAt iL_steps jL_scaleOver jL_scaleUnder ++ (WT hT aT kT fT_tape dT_tape nT_tape iT_length iT_fault_50 iT_place_50 iT_kind iT_at iT_number jT_name iT_next ++ (WM hM aM kM iM_stands iM_variables iM_rows iM_goals iM_differents iM_cases fM_from fM_to fM_whole fM_ways iM_plainRows fM_plainRow fM_kept fM_goalOver fM_goalUnder fM_goalMax fM_different))) := hD.sub [0, 1, 2, 3, 4, 5, 6, 7, 8, 9, 10, 22, 23, 11, 12, 13, 14, 15, 16, 17, 18, 19, 20, 21] (by decide) rfl
                exact vx_out (fun x hx9 => (htab x hx9).elim) hlocks hc1 hc2 hc3 (fun t9_ ht hvm => ⟨(jL_scaleOver, jL_scaleUnder, iT_fault_50, iT_place_50, fM_kept), trivial, ⟨(by have h9 := hEx; exact h9), by rw [ht]; exact hP, hD⟩, hS.F ht⟩) hS.2.2 (by decide +kernel) (by decide +kernel)
              exact False.elim hw9
            · have t_143 : ¬ r41.toInt > 99 := toI_ngt c_143 rfl (by decide : (99 : Int32).toInt = 99)
              refine lv_aload_n hx hb dX10_scaled_146 rfl (lv_at hl 6 rfl) ?_
              refine lv_iload_n hx hb dX10_scaled_147 rfl (lv_at hl 7 rfl) ?_
              refine lv_iload_n hx hb dX10_scaled_148 rfl (lv_at hl 8 rfl) ?_
              refine lv_iload hx hb dX10_scaled_149 (lv_at hl 0 rfl) ?_
              have hPc : va_P (dC, dI) vwCl (WL hL aL kL hT hM xL_tree iL_names gL_key fL_kind fL_one fL_two fL_base iL_params fL_paramOver dL_paramOver nL_params fL_paramUnder dL_paramUnder nL_pu gL_over gL_under fL_bound iL_nameAt iL_startAt iL_steps jL_scaleOver jL_scaleUnder ++ (WM hM aM kM iM_stands iM_variables iM_rows iM_goals iM_differents iM_cases fM_from fM_to fM_whole fM_ways iM_plainRows fM_plainRow fM_kept fM_goalOver fM_goalUnder fM_goalMax fM_different)) _ := hP.sub [0, 1, 2, 3, 4, 5, 6, 7, 8, 9, 10, 13, 14, 15, 16, 17, 18, 19, 20, 21, 22, 23] rfl
              have hDc : va_D _ (WL hL aL kL hT hM xL_tree iL_names gL_key fL_kind fL_one fL_two fL_base iL_params fL_paramOver dL_paramOver nL_params fL_paramUnder dL_paramUnder nL_pu gL_over gL_under fL_bound iL_nameAt iL_startAt iL_steps jL_scaleOver jL_scaleUnder ++ (WM hM aM kM iM_stands iM_variables iM_rows iM_goals iM_differents iM_cases fM_from fM_to fM_whole fM_ways iM_plainRows fM_plainRow fM_kept fM_goalOver fM_goalUnder fM_goalMax fM_different)) := hD.sub [0, 1, 2, 3, 4, 5, 6, 7, 8, 9, 10, 13, 14, 15, 16, 17, 18, 19, 20, 21, 22, 23] (by decide) rfl
              have hKc : va_K (dC, dI) vwCl (tL kL ++ (tM kM)) _ := hK.sub [0, 1, 2, 3, 4, 5, 6, 7, 8, 9, 11, 12, 13, 14, 15, 16, 17, 18, 19, 20] rfl
              have hFc := va_free (wc := WL hL aL kL hT hM xL_tree iL_names gL_key fL_kind fL_one fL_two fL_base iL_params fL_paramOver dL_paramOver nL_params fL_paramUnder dL_paramUnder nL_pu gL_over gL_under fL_bound iL_nameAt iL_startAt iL_steps jL_scaleOver jL_scaleUnder ++ (WM hM aM kM iM_stands iM_variables iM_rows iM_goals iM_differents iM_cases fM_from fM_to fM_whole fM_ways iM_plainRows fM_plainRow fM_kept fM_goalOver fM_goalUnder fM_goalMax fM_different)) hD hS hA [0, 1, 2, 3, 4, 5, 6, 7, 8, 9, 10, 13, 14, 15, 16, 17, 18, 19, 20, 21, 22, 23] rfl
              refine va_calli (va_runV (As := [.int p1, .int p2, .int r41]) (rest := []) ⟨hx, hb, hml, hown, hts⟩ (m_X10_stretchWay l dC dI hL aL kL hT hM xL_tree iL_names gL_key fL_kind fL_one fL_two fL_base iL_params fL_paramOver dL_paramOver nL_params fL_paramUnder dL_paramUnder nL_pu gL_over gL_under fL_bound iL_nameAt iL_startAt iL_steps jL_scaleOver jL_scaleUnder aM kM iM_stands iM_variables iM_rows iM_goals iM_differents iM_cases fM_from fM_to fM_whole fM_ways iM_plainRows fM_plainRow fM_kept fM_goalOver fM_goalUnder fM_goalMax fM_different p1 p2 r41 (b_iL_names) b_fL_kind b_fL_two b_fL_base (b_iL_params) (by first | exact b_nL_params | with_reducible assumption | exact ⟨by omega, by omega⟩ | assumption) (by first | with_reducible assumption | omega | (rw [iI_t (by omega) (by omega)]; omega) | assumption) (by first | with_reducible assumption | omega | (rw [iI_t (by omega) (by omega)]; omega) | assumption) (by first | with_reducible assumption | omega | (rw [iI_t (by omega) (by omega)]; omega) | assumption) (b_iM_stands) (b_iM_variables) (b_iM_rows) (b_iM_goals) (b_iM_differents) (b_iM_cases) b_fM_ways (b_iM_plainRows) b_fM_plainRow (by first | with_reducible assumption | omega | assumption) (b_p1) (b_p2) H.size) (cwV 3 hts gwsMX10_scaled_3 rfl rfl rfl hd_yX10_stretchWay_RX10 (by decide +kernel)) (fz_pre (va_recv hK hP (ci := 10) (q0 := 0) rfl rfl) hPc hKc hDc) rfl rfl hl.1 rfl (lv_room (Nat.le_of_ble_eq_true rfl)) dX10_scaled_151 (by decide +kernel)) hS (fun q _ h => hFc q h) hFc (fun r51 fM_kept_51 t9_ H locs ht hvm hw9 hB9 hz1 hk1 hS => ?_)
              have b_r51 := hw9
              try dsimp only at b_r51
              obtain ⟨hP, hD⟩ := va_join (wr := [(hT 0, .inr (9, [.ref dT_tape, .int iT_length, .int iT_fault, .int iT_place, .int iT_kind, .int iT_at, .int iT_number, .long jT_name, .int iT_next])), (dT_tape, .inl (kT 0, nT_tape, .inl fT_tape))]) (w1 := WL hL aL kL hT hM xL_tree iL_names gL_key fL_kind fL_one fL_two fL_base iL_params fL_paramOver dL_paramOver nL_params fL_paramUnder dL_paramUnder nL_pu gL_over gL_under fL_bound iL_nameAt iL_startAt iL_steps jL_scaleOver jL_scaleUnder ++ (WM hM aM kM iM_stands iM_variables iM_rows iM_goals iM_differents iM_cases fM_from fM_to fM_whole fM_ways iM_plainRows fM_plainRow fM_kept_51 fM_goalOver fM_goalUnder fM_goalMax fM_different)) hP hD [0, 1, 2, 3, 4, 5, 6, 7, 8, 9, 10, 13, 14, 15, 16, 17, 18, 19, 20, 21, 22, 23] [11, 12] rfl rfl (by decide) (by decide) hk1 hFc (fz_P ht hB9.1) hB9.2
              have hP : va_P (dC, dI) vwCl (WL hL aL kL hT hM xL_tree iL_names gL_key fL_kind fL_one fL_two fL_base iL_params fL_paramOver dL_paramOver nL_params fL_paramUnder dL_paramUnder nL_pu gL_over gL_under fL_bound iL_nameAt iL_startAt iL_steps jL_scaleOver jL_scaleUnder ++ (WT hT aT kT fT_tape dT_tape nT_tape iT_length iT_fault iT_place iT_kind iT_at iT_number jT_name iT_next ++ (WM hM aM kM iM_stands iM_variables iM_rows iM_goals iM_differents iM_cases fM_from fM_to fM_whole fM_ways iM_plainRows fM_plainRow fM_kept_51 fM_goalOver fM_goalUnder fM_goalMax fM_different))) H := hP.sub [2, 3, 4, 5, 6, 7, 8, 9, 10, 11, 12, 0, 1, 13, 14, 15, 16, 17, 18, 19, 20, 21, 22, 23] rfl
              have hD : va_D A (WL hL aL kL hT hM xL_tree iL_names gL_key fL_kind fL_one fL_two fL_base iL_params fL_paramOver dL_paramOver nL_params fL_paramUnder dL_paramUnder nL_pu gL_over gL_under fL_bound iL_nameAt iL_startAt iL_steps jL_scaleOver jL_scaleUnder ++ (WT hT aT kT fT_tape dT_tape nT_tape iT_length iT_fault iT_place iT_kind iT_at iT_number jT_name iT_next ++ (WM hM aM kM iM_stands iM_variables iM_rows iM_goals iM_differents iM_cases fM_from fM_to fM_whole fM_ways iM_plainRows fM_plainRow fM_kept_51 fM_goalOver fM_goalUnder fM_goalMax fM_different))) := hD.sub [2, 3, 4, 5, 6, 7, 8, 9, 10, 11, 12, 0, 1, 13, 14, 15, 16, 17, 18, 19, 20, 21, 22, 23] (by decide) rfl
              refine lv_if_ne (tgt := 168) hx hb dX10_scaled_154 (by decide) (fun c_154 => ?_) (fun c_154 => ?_)
              · have t_154 : r51.toInt ≠ 0 := toI_ne c_154 rfl (by decide : (0 : Int32).toInt = 0)
                refine lv_iload hx hb dX10_scaled_168 (lv_at hl 0 rfl) ?_
                refine lv_i2l hx hb dX10_scaled_170 rfl ?_
                refine lv_topl (fun v53 hv53 => ?_)
                clear hv53
                refine lv_aload_n hx hb dX10_scaled_171 rfl (lv_at hl 6 rfl) ?_
                refine va_get (D := (dC, dI)) (ci := 10) (v := .long jL_scaleUnder) (C := RX10) (T := TX10) (N := 20) hx hb hts iwsMX10_scaled_in10 hown hK hP 0 rfl rfl 19 (by decide) (hts (.fieldLink RX10 159 "OptimaWorks$Worker" "scaleUnder" "J") (by decide +kernel)) (fun _ h9 => h9) rfl dX10_scaled_172 ?_
                have hFc := noneFree hS hA
                refine va_calll (va_runS (As := [.long v53, .long jL_scaleUnder]) (rest := []) ⟨hx, hb, hml, hown, hts⟩ (m_X10_divisor l dC dI v53 jL_scaleUnder H.size) (va_cwS 2 hts gwsMX10_scaled_0 rfl rfl rfl (by decide +kernel) ⟨by decide +kernel, by decide +kernel⟩) ⟨fun a U g mk q => by obtain ⟨q0, q1, qP, qK, qD⟩ := q; exact ⟨q0, q1, qP, va_K.moved (u := U) (U := U.calling g mk a) (Vm.Alike.refl U.vm) qK, qD⟩, fun U hU9 hW => ⟨rfl, by rw [hU9], by rw [hU9]; exact nilP, va_K.moved hW.alike (hK.sub (tys' := []) [] rfl), nilD⟩⟩ rfl rfl hl.1 rfl (lv_room (Nat.le_of_ble_eq_true rfl)) dX10_scaled_175 (by decide +kernel)) hS (fun q _ h => hFc q h) hFc (fun r54 u t9_ H1 locs ht hvm hw9 hB9 hz1 hk1 hS => ?_)
                have f54_0 := hw9
                try dsimp only at f54_0
                clear hB9
                have hP := keepAll hP hk1
                generalize H1 = H at hP hS ⊢
                have hP : va_P (dC, dI) vwCl (WL hL aL kL hT hM xL_tree iL_names gL_key fL_kind fL_one fL_two fL_base iL_params fL_paramOver dL_paramOver nL_params fL_paramUnder dL_paramUnder nL_pu gL_over gL_under fL_bound iL_nameAt iL_startAt iL_steps jL_scaleOver jL_scaleUnder ++ (WT hT aT kT fT_tape dT_tape nT_tape iT_length iT_fault iT_place iT_kind iT_at iT_number jT_name iT_next ++ (WM hM aM kM iM_stands iM_variables iM_rows iM_goals iM_differents iM_cases fM_from fM_to fM_whole fM_ways iM_plainRows fM_plainRow fM_kept_51 fM_goalOver fM_goalUnder fM_goalMax fM_different))) H := hP
                have hD : va_D A (WL hL aL kL hT hM xL_tree iL_names gL_key fL_kind fL_one fL_two fL_base iL_params fL_paramOver dL_paramOver nL_params fL_paramUnder dL_paramUnder nL_pu gL_over gL_under fL_bound iL_nameAt iL_startAt iL_steps jL_scaleOver jL_scaleUnder ++ (WT hT aT kT fT_tape dT_tape nT_tape iT_length iT_fault iT_place iT_kind iT_at iT_number jT_name iT_next ++ (WM hM aM kM iM_stands iM_variables iM_rows iM_goals iM_differents iM_cases fM_from fM_to fM_whole fM_ways iM_plainRows fM_plainRow fM_kept_51 fM_goalOver fM_goalUnder fM_goalMax fM_different))) := hD
                refine lv_lstore hx hb dX10_scaled_178 hl (by decide) rfl (fun ls (hl : lv_has ls _ ([(14, .long r54), (13, .int r41), (7, .int r37), (12, .int k0_j7), (10, .long r34), (8, .long r33), (5, .long v2), (0, .ref (hL 0)), (1, .int p1), (2, .int p2), (3, .int p3), (4, .int p4)])) => ?_)
                refine lv_aload_n hx hb dX10_scaled_180 rfl (lv_at hl 7 rfl) ?_
                refine lv_dup hx hb dX10_scaled_181 rfl ?_
                refine va_get (D := (dC, dI)) (ci := 10) (v := .long jL_scaleOver) (C := RX10) (T := TX10) (N := 20) hx hb hts iwsMX10_scaled_in10 hown hK hP 0 rfl rfl 18 (by decide) (hts (.fieldLink RX10 155 "OptimaWorks$Worker" "scaleOver" "J") (by decide +kernel)) (fun _ h9 => h9) rfl dX10_scaled_182 ?_
                refine lv_iload hx hb dX10_scaled_185 (lv_at hl 1 rfl) ?_
                refine lv_i2l hx hb dX10_scaled_187 rfl ?_
                refine lv_topl (fun v55 hv55 => ?_)
                clear hv55
                refine lv_lload hx hb dX10_scaled_188 (lv_at hl 0 rfl) ?_
                refine lv_ldiv hx hb dX10_scaled_190 (nz_l (x := r54) rfl (by omega)) ?_
                refine lv_topl (fun v56 hv56 => ?_)
                clear hv56
                refine lv_lmul hx hb dX10_scaled_191 ?_
                refine lv_topl (fun v57 hv57 => ?_)
                clear hv57
                refine va_put (D := (dC, dI)) (ci := 10) (v := .long v57) (ty := .long) (C := RX10) (T := TX10) (N := 20) hx hb hts iwsMX10_scaled_in10 tyX10 tyX10_ok nmX10 hown hK hP hD hS 0 rfl rfl 18 (by decide) (hts (.fieldLink RX10 155 "OptimaWorks$Worker" "scaleOver" "J") (by decide +kernel)) (fun _ h9 => h9) rfl (by decide +kernel) rfl rfl (Nat.le_of_ble_eq_true rfl) dX10_scaled_192 (fun H locs hP hD hS => ?_)
                have hP : va_P (dC, dI) vwCl (WL hL aL kL hT hM xL_tree iL_names gL_key fL_kind fL_one fL_two fL_base iL_params fL_paramOver dL_paramOver nL_params fL_paramUnder dL_paramUnder nL_pu gL_over gL_under fL_bound iL_nameAt iL_startAt iL_steps v57 jL_scaleUnder ++ (WT hT aT kT fT_tape dT_tape nT_tape iT_length iT_fault iT_place iT_kind iT_at iT_number jT_name iT_next ++ (WM hM aM kM iM_stands iM_variables iM_rows iM_goals iM_differents iM_cases fM_from fM_to fM_whole fM_ways iM_plainRows fM_plainRow fM_kept_51 fM_goalOver fM_goalUnder fM_goalMax fM_different))) H := hP
                have hD : va_D A (WL hL aL kL hT hM xL_tree iL_names gL_key fL_kind fL_one fL_two fL_base iL_params fL_paramOver dL_paramOver nL_params fL_paramUnder dL_paramUnder nL_pu gL_over gL_under fL_bound iL_nameAt iL_startAt iL_steps v57 jL_scaleUnder ++ (WT hT aT kT fT_tape dT_tape nT_tape iT_length iT_fault iT_place iT_kind iT_at iT_number jT_name iT_next ++ (WM hM aM kM iM_stands iM_variables iM_rows iM_goals iM_differents iM_cases fM_from fM_to fM_whole fM_ways iM_plainRows fM_plainRow fM_kept_51 fM_goalOver fM_goalUnder fM_goalMax fM_different))) := hD
                refine lv_aload_n hx hb dX10_scaled_195 rfl (lv_at hl 7 rfl) ?_
                refine lv_dup hx hb dX10_scaled_196 rfl ?_
                refine va_get (D := (dC, dI)) (ci := 10) (v := .long jL_scaleUnder) (C := RX10) (T := TX10) (N := 20) hx hb hts iwsMX10_scaled_in10 hown hK hP 0 rfl rfl 19 (by decide) (hts (.fieldLink RX10 159 "OptimaWorks$Worker" "scaleUnder" "J") (by decide +kernel)) (fun _ h9 => h9) rfl dX10_scaled_197 ?_
                refine lv_lload hx hb dX10_scaled_200 (lv_at hl 0 rfl) ?_
                refine lv_ldiv hx hb dX10_scaled_202 (nz_l (x := r54) rfl (by omega)) ?_
                refine lv_topl (fun v58 hv58 => ?_)
                clear hv58
                refine va_put (D := (dC, dI)) (ci := 10) (v := .long v58) (ty := .long) (C := RX10) (T := TX10) (N := 20) hx hb hts iwsMX10_scaled_in10 tyX10 tyX10_ok nmX10 hown hK hP hD hS 0 rfl rfl 19 (by decide) (hts (.fieldLink RX10 159 "OptimaWorks$Worker" "scaleUnder" "J") (by decide +kernel)) (fun _ h9 => h9) rfl (by decide +kernel) rfl rfl (Nat.le_of_ble_eq_true rfl) dX10_scaled_203 (fun H locs hP hD hS => ?_)
                have hP : va_P (dC, dI) vwCl (WL hL aL kL hT hM xL_tree iL_names gL_key fL_kind fL_one fL_two fL_base iL_params fL_paramOver dL_paramOver nL_params fL_paramUnder dL_paramUnder nL_pu gL_over gL_under fL_bound iL_nameAt iL_startAt iL_steps v57 v58 ++ (WT hT aT kT fT_tape dT_tape nT_tape iT_length iT_fault iT_place iT_kind iT_at iT_number jT_name iT_next ++ (WM hM aM kM iM_stands iM_variables iM_rows iM_goals iM_differents iM_cases fM_from fM_to fM_whole fM_ways iM_plainRows fM_plainRow fM_kept_51 fM_goalOver fM_goalUnder fM_goalMax fM_different))) H := hP
                have hD : va_D A (WL hL aL kL hT hM xL_tree iL_names gL_key fL_kind fL_one fL_two fL_base iL_params fL_paramOver dL_paramOver nL_params fL_paramUnder dL_paramUnder nL_pu gL_over gL_under fL_bound iL_nameAt iL_startAt iL_steps v57 v58 ++ (WT hT aT kT fT_tape dT_tape nT_tape iT_length iT_fault iT_place iT_kind iT_at iT_number jT_name iT_next ++ (WM hM aM kM iM_stands iM_variables iM_rows iM_goals iM_differents iM_cases fM_from fM_to fM_whole fM_ways iM_plainRows fM_plainRow fM_kept_51 fM_goalOver fM_goalUnder fM_goalMax fM_different))) := hD
                have hl : lv_has _ _ ([(7, .int r37), (5, .long v2), (0, .ref (hL 0)), (1, .int p1), (2, .int p2), (3, .int p3), (4, .int p4)]) := lv_sub hl [2, 6, 7, 8, 9, 10, 11] rfl
                exact join6 _ _ _ _ ⟨v57, v58, fM_kept_51, r37, rfl, hP, hD, hS, hl⟩
              · have t_154 : r51.toInt = 0 := toI_nne c_154 rfl (by decide : (0 : Int32).toInt = 0)
                refine lv_aload_n hx hb dX10_scaled_157 rfl (lv_at hl 6 rfl) ?_
                refine va_get (D := (dC, dI)) (ci := 10) (v := .ref (hT 0)) (C := RX10) (T := TX10) (N := 20) hx hb hts iwsMX10_scaled_in10 hown hK hP 0 rfl rfl 0 (by decide) (hts (.fieldLink RX10 47 "OptimaWorks$Worker" "words" "LOptimaWorks$Words;") (by decide +kernel)) (fun _ h9 => h9) rfl dX10_scaled_158 ?_
                refine lv_bipush (v := 9) hx hb dX10_scaled_161 (by decide) ?_
                refine lv_iload hx hb dX10_scaled_163 (lv_at hl 10 rfl) ?_
                have hPc : va_P (dC, dI) vwCl (WT hT aT kT fT_tape dT_tape nT_tape iT_length iT_fault iT_place iT_kind iT_at iT_number jT_name iT_next) _ := hP.sub [11, 12] rfl
                have hDc : va_D _ (WT hT aT kT fT_tape dT_tape nT_tape iT_length iT_fault iT_place iT_kind iT_at iT_number jT_name iT_next) := hD.sub [11, 12] (by decide) rfl
                have hKc : va_K (dC, dI) vwCl (tT kT) _ := hK.sub [10] rfl
                have hFc := va_free (wc := WT hT aT kT fT_tape dT_tape nT_tape iT_length iT_fault iT_place iT_kind iT_at iT_number jT_name iT_next) hD hS hA [11, 12] rfl
                refine vx_callv (vx_runV (As := [.int 9, .int p4]) (rest := []) ⟨hx, hb, hml, hown, hts⟩ (m_X9_fail l hst dC dI hT aT kT fT_tape dT_tape nT_tape iT_length iT_fault iT_place iT_kind iT_at iT_number jT_name iT_next 9 p4 b_fT_tape (by first | exact b_nT_tape | with_reducible assumption | exact ⟨by omega, by omega⟩ | assumption) (b_iT_length) (b_iT_at) (b_iT_number) (b_iT_next) (by first | with_reducible assumption | omega | assumption) H.size) (cwV 2 hts gwsMX10_scaled_2 rfl rfl rfl hd_yX9_fail_RX9 (by decide +kernel)) (fz_preE (va_recv hK hP (ci := 9) (q0 := 11) rfl rfl) hPc hKc hDc (fun a U g mk qE => qE.call) (fun U hU9 hW => by rw [hU9]; exact (((hE : CE A s s.heap).kept hS.2.1).narrow (fun q h => hFc q h)).warm hW)) rfl rfl hl.1 rfl (lv_room (Nat.le_of_ble_eq_true rfl)) dX10_scaled_165 (by decide +kernel)) hS (fun q _ h => hFc q h) hFc (fun q _ h => hFc q h) (fun E ce q9 u t9_ H locs ht hvm hw9 hB9 hz1 hk1 hS hc1 hc2 hc3 => ?_) (fun u t9_ H1 locs ht hvm hw9 hB9 hz1 hk1 hS => ?_)
                · revert u hw9 hB9
                  refine fz_p2 ?_
                  intro iT_fault_59 iT_place_59 hw9 hB9
                  try dsimp only at hw9 hB9
                  revert hB9
                  refine fz_a2 ?_
                  intro hEx hB9
                  clear hw9
                  obtain ⟨hP, hD⟩ := va_join (wr := [(hL 0, .inr (10, [.ref (hT 0), .ref (hM 0), xL_tree, .int iL_names, .ref (aL 0), .ref (aL 1), .ref (aL 2), .ref (aL 3), .ref (aL 4), .int iL_params, .ref dL_paramOver, .ref dL_paramUnder, .ref (aL 7), .ref (aL 8), .ref (aL 9), .int iL_nameAt, .int iL_startAt, .int iL_steps, .long jL_scaleOver, .long jL_scaleUnder])), (aL 0, .inl (kL 0, 40, .inr (.inl gL_key))), (aL 1, .inl (kL 1, 40, .inl fL_kind)), (aL 2, .inl (kL 2, 40, .inl fL_one)), (aL 3, .inl (kL 3, 40, .inl fL_two)), (aL 4, .inl (kL 4, 40, .inl fL_base)), (dL_paramOver, .inl (kL 5, nL_params, .inl fL_paramOver)), (dL_paramUnder, .inl (kL 6, nL_pu, .inl fL_paramUnder)), (aL 7, .inl (kL 7, 360, .inr (.inl gL_over))), (aL 8, .inl (kL 8, 360, .inr (.inl gL_under))), (aL 9, .inl (kL 9, 64, .inl fL_bound)), (hM 0, .inr (1, [.int iM_stands, .int iM_variables, .int iM_rows, .int iM_goals, .int iM_differents, .int iM_cases, .ref (aM 0), .ref (aM 1), .ref (aM 2), .ref (aM 3), .int iM_plainRows, .ref (aM 4), .ref (aM 5), .ref (aM 6), .ref (aM 7), .ref (aM 8), .ref (aM 9)])), (aM 0, .inl (kM 0, 8, .inl fM_from)), (aM 1, .inl (kM 1, 8, .inl fM_to)), (aM 2, .inl (kM 2, 8, .inl fM_whole)), (aM 3, .inl (kM 3, 12, .inl fM_ways)), (aM 4, .inl (kM 4, 12, .inl fM_plainRow)), (aM 5, .inl (kM 5, 360, .inl fM_kept_51)), (aM 6, .inl (kM 6, 27, .inl fM_goalOver)), (aM 7, .inl (kM 7, 27, .inl fM_goalUnder)), (aM 8, .inl (kM 8, 3, .inl fM_goalMax)), (aM 9, .inl (kM 9, 8, .inl fM_different))]) (w1 := WT hT aT kT fT_tape dT_tape nT_tape iT_length iT_fault_59 iT_place_59 iT_kind iT_at iT_number jT_name iT_next) hP hD [11, 12] [0, 1, 2, 3, 4, 5, 6, 7, 8, 9, 10, 13, 14, 15, 16, 17, 18, 19, 20, 21, 22, 23] rfl rfl (by decide) (by decide) hk1 hFc (fz_P ht hB9.1) hB9.2
                  have hP : va_P (dC, dI) vwCl (WL hL aL kL hT hM xL_tree iL_names gL_key fL_kind fL_one fL_two fL_base iL_params fL_paramOver dL_paramOver nL_params fL_paramUnder dL_paramUnder nL_pu gL_over gL_under fL_bound iL_nameAt iL_startAt iL_steps jL_scaleOver jL_scaleUnder ++ (WT hT aT kT fT_tape dT_tape nT_tape iT_length iT_fault_59 iT_place_59 iT_kind iT_at iT_number jT_name iT_next ++ (WM hM aM kM iM_stands iM_variables iM_rows iM_goals iM_differents iM_cases fM_from fM_to fM_whole fM_ways iM_plainRows fM_plainRow fM_kept_51 fM_goalOver fM_goalUnder fM_goalMax fM_different))) H := hP.sub [0, 1, 2, 3, 4, 5, 6, 7, 8, 9, 10, 22, 23, 11, 12, 13, 14, 15, 16, 17, 18, 19, 20, 21] rfl
                  have hD : va_D A (WL hL aL kL hT hM xL_tree iL_names gL_key fL_kind fL_one fL_two fL_base iL_params fL_paramOver dL_paramOver nL_params fL_paramUnder dL_paramUnder nL_pu gL_over gL_under fL_bound iL_nameAt iL_startAt iL_steps jL_scaleOver jL_scaleUnder ++ (WT hT aT kT fT_tape dT_tape nT_tape iT_length iT_fault_59 iT_place_59 iT_kind iT_at iT_number jT_name iT_next ++ (WM hM aM kM iM_stands iM_variables iM_rows iM_goals iM_differents iM_cases fM_from fM_to fM_whole fM_ways iM_plainRows fM_plainRow fM_kept_51 fM_goalOver fM_goalUnder fM_goalMax fM_different))) := hD.sub [0, 1, 2, 3, 4, 5, 6, 7, 8, 9, 10, 22, 23, 11, 12, 13, 14, 15, 16, 17, 18, 19, 20, 21] (by decide) rfl
                  exact vx_out (fun x hx9 => (htab x hx9).elim) hlocks hc1 hc2 hc3 (fun t9_ ht hvm => ⟨(jL_scaleOver, jL_scaleUnder, iT_fault_59, iT_place_59, fM_kept_51), trivial, ⟨(by have h9 := hEx; exact h9), by rw [ht]; exact hP, hD⟩, hS.F ht⟩) hS.2.2 (by decide +kernel) (by decide +kernel)
                exact False.elim hw9
      · have t_29 : jL_scaleOver.toInt = 0 := toL_nne c_29 rfl (by decide : (0 : Int64).toInt = 0)
        refine lv_aload_n hx hb dX10_scaled_32 rfl (lv_at hl 2 rfl) ?_
        refine lv_aload_n hx hb dX10_scaled_33 rfl (lv_at hl 2 rfl) ?_
        refine va_get (D := (dC, dI)) (ci := 10) (v := .ref (aL 8)) (C := RX10) (T := TX10) (N := 20) hx hb hts iwsMX10_scaled_in10 hown hK hP 0 rfl rfl 13 (by decide) (hts (.fieldLink RX10 39 "OptimaWorks$Worker" "under" "[J") (by decide +kernel)) (fun _ h9 => h9) rfl dX10_scaled_34 ?_
        refine lv_iload_n hx hb dX10_scaled_37 rfl (lv_at hl 5 rfl) ?_
        refine va_lald (cA := kL 8) (n := 360) (f := gL_under) hx hb hK hP 9 8 rfl rfl (vp_in_iff.mpr ⟨b_p3.1, (Int.lt_of_le_of_lt (b_p3.2) (by decide))⟩) dX10_scaled_38 ?_
        refine lv_topl (fun v60 hv60 => ?_)
        clear hv60
        refine va_put (D := (dC, dI)) (ci := 10) (v := .long v60) (ty := .long) (C := RX10) (T := TX10) (N := 20) hx hb hts iwsMX10_scaled_in10 tyX10 tyX10_ok nmX10 hown hK hP hD hS 0 rfl rfl 18 (by decide) (hts (.fieldLink RX10 155 "OptimaWorks$Worker" "scaleOver" "J") (by decide +kernel)) (fun _ h9 => h9) rfl (by decide +kernel) rfl rfl (Nat.le_of_ble_eq_true rfl) dX10_scaled_39 (fun H locs hP hD hS => ?_)
        have hP : va_P (dC, dI) vwCl (WL hL aL kL hT hM xL_tree iL_names gL_key fL_kind fL_one fL_two fL_base iL_params fL_paramOver dL_paramOver nL_params fL_paramUnder dL_paramUnder nL_pu gL_over gL_under fL_bound iL_nameAt iL_startAt iL_steps v60 jL_scaleUnder ++ (WT hT aT kT fT_tape dT_tape nT_tape iT_length iT_fault iT_place iT_kind iT_at iT_number jT_name iT_next ++ (WM hM aM kM iM_stands iM_variables iM_rows iM_goals iM_differents iM_cases fM_from fM_to fM_whole fM_ways iM_plainRows fM_plainRow fM_kept fM_goalOver fM_goalUnder fM_goalMax fM_different))) H := hP
        have hD : va_D A (WL hL aL kL hT hM xL_tree iL_names gL_key fL_kind fL_one fL_two fL_base iL_params fL_paramOver dL_paramOver nL_params fL_paramUnder dL_paramUnder nL_pu gL_over gL_under fL_bound iL_nameAt iL_startAt iL_steps v60 jL_scaleUnder ++ (WT hT aT kT fT_tape dT_tape nT_tape iT_length iT_fault iT_place iT_kind iT_at iT_number jT_name iT_next ++ (WM hM aM kM iM_stands iM_variables iM_rows iM_goals iM_differents iM_cases fM_from fM_to fM_whole fM_ways iM_plainRows fM_plainRow fM_kept fM_goalOver fM_goalUnder fM_goalMax fM_different))) := hD
        refine lv_aload_n hx hb dX10_scaled_42 rfl (lv_at hl 2 rfl) ?_
        refine lv_lload hx hb dX10_scaled_43 (lv_at hl 1 rfl) ?_
        refine va_put (D := (dC, dI)) (ci := 10) (v := .long v2) (ty := .long) (C := RX10) (T := TX10) (N := 20) hx hb hts iwsMX10_scaled_in10 tyX10 tyX10_ok nmX10 hown hK hP hD hS 0 rfl rfl 19 (by decide) (hts (.fieldLink RX10 159 "OptimaWorks$Worker" "scaleUnder" "J") (by decide +kernel)) (fun _ h9 => h9) rfl (by decide +kernel) rfl rfl (Nat.le_of_ble_eq_true rfl) dX10_scaled_45 (fun H locs hP hD hS => ?_)
        have hP : va_P (dC, dI) vwCl (WL hL aL kL hT hM xL_tree iL_names gL_key fL_kind fL_one fL_two fL_base iL_params fL_paramOver dL_paramOver nL_params fL_paramUnder dL_paramUnder nL_pu gL_over gL_under fL_bound iL_nameAt iL_startAt iL_steps v60 v2 ++ (WT hT aT kT fT_tape dT_tape nT_tape iT_length iT_fault iT_place iT_kind iT_at iT_number jT_name iT_next ++ (WM hM aM kM iM_stands iM_variables iM_rows iM_goals iM_differents iM_cases fM_from fM_to fM_whole fM_ways iM_plainRows fM_plainRow fM_kept fM_goalOver fM_goalUnder fM_goalMax fM_different))) H := hP
        have hD : va_D A (WL hL aL kL hT hM xL_tree iL_names gL_key fL_kind fL_one fL_two fL_base iL_params fL_paramOver dL_paramOver nL_params fL_paramUnder dL_paramUnder nL_pu gL_over gL_under fL_bound iL_nameAt iL_startAt iL_steps v60 v2 ++ (WT hT aT kT fT_tape dT_tape nT_tape iT_length iT_fault iT_place iT_kind iT_at iT_number jT_name iT_next ++ (WM hM aM kM iM_stands iM_variables iM_rows iM_goals iM_differents iM_cases fM_from fM_to fM_whole fM_ways iM_plainRows fM_plainRow fM_kept fM_goalOver fM_goalUnder fM_goalMax fM_different))) := hD
        refine lv_goto (tgt := 206) hx hb dX10_scaled_48 (by decide) ?_
        have hl : lv_has _ _ ([(7, .int 1), (5, .long v2), (0, .ref (hL 0)), (1, .int p1), (2, .int p2), (3, .int p3), (4, .int p4)]) := lv_sub hl [0, 1, 2, 3, 4, 5, 6] rfl
        exact join6 _ _ _ _ ⟨v60, v2, fM_kept, 1, rfl, hP, hD, hS, hl⟩
    · rintro H locs ls stk ⟨jL_scaleOver_j6, jL_scaleUnder_j6, fM_kept_j6, l7_j6, rfl, hP, hD, hS, hl⟩
      refine lv_aload_n hx hb dX10_scaled_206 rfl (lv_at hl 2 rfl) ?_
      refine va_get (D := (dC, dI)) (ci := 10) (v := .ref (aL 7)) (C := RX10) (T := TX10) (N := 20) hx hb hts iwsMX10_scaled_in10 hown hK hP 0 rfl rfl 12 (by decide) (hts (.fieldLink RX10 36 "OptimaWorks$Worker" "over" "[J") (by decide +kernel)) (fun _ h9 => h9) rfl dX10_scaled_207 ?_
      refine lv_iload_n hx hb dX10_scaled_210 rfl (lv_at hl 5 rfl) ?_
      refine va_lald (cA := kL 7) (n := 360) (f := gL_over) hx hb hK hP 8 7 rfl rfl (vp_in_iff.mpr ⟨b_p3.1, (Int.lt_of_le_of_lt (b_p3.2) (by decide))⟩) dX10_scaled_211 ?_
      refine lv_topl (fun v61 hv61 => ?_)
      clear hv61
      refine lv_lconst (v := 0) hx hb dX10_scaled_212 (by decide) ?_
      refine W.lcmp hx hb dX10_scaled_213 ?_
      refine W.cut (pc := 225) (fun H locs ls stk => ∃ (k0_j8 : Int32),  stk = [.int k0_j8] ∧ va_P (dC, dI) vwCl (WL hL aL kL hT hM xL_tree iL_names gL_key fL_kind fL_one fL_two fL_base iL_params fL_paramOver dL_paramOver nL_params fL_paramUnder dL_paramUnder nL_pu gL_over gL_under fL_bound iL_nameAt iL_startAt iL_steps jL_scaleOver_j6 jL_scaleUnder_j6 ++ (WT hT aT kT fT_tape dT_tape nT_tape iT_length iT_fault iT_place iT_kind iT_at iT_number jT_name iT_next ++ (WM hM aM kM iM_stands iM_variables iM_rows iM_goals iM_differents iM_cases fM_from fM_to fM_whole fM_ways iM_plainRows fM_plainRow fM_kept_j6 fM_goalOver fM_goalUnder fM_goalMax fM_different))) H ∧ va_D A (WL hL aL kL hT hM xL_tree iL_names gL_key fL_kind fL_one fL_two fL_base iL_params fL_paramOver dL_paramOver nL_params fL_paramUnder dL_paramUnder nL_pu gL_over gL_under fL_bound iL_nameAt iL_startAt iL_steps jL_scaleOver_j6 jL_scaleUnder_j6 ++ (WT hT aT kT fT_tape dT_tape nT_tape iT_length iT_fault iT_place iT_kind iT_at iT_number jT_name iT_next ++ (WM hM aM kM iM_stands iM_variables iM_rows iM_goals iM_differents iM_cases fM_from fM_to fM_whole fM_ways iM_plainRows fM_plainRow fM_kept_j6 fM_goalOver fM_goalUnder fM_goalMax fM_different))) ∧ va_S A s.heap H locs ∧ lv_has ls 16 [(7, .int l7_j6), (5, .long v2), (0, .ref (hL 0)), (1, .int p1), (2, .int p2), (3, .int p3), (4, .int p4)]) (fun join8 => ?_) ?_
      · refine lv_if_ge (tgt := 223) hx hb dX10_scaled_214 (by decide) (fun c_214 => ?_) (fun c_214 => ?_)
        · have t_214 : v61.toInt ≥ 0 := toL_ge c_214 rfl (by decide : (0 : Int64).toInt = 0)
          refine lv_iload hx hb dX10_scaled_223 (lv_at hl 0 rfl) ?_
          have hl : lv_has _ _ ([(7, .int l7_j6), (5, .long v2), (0, .ref (hL 0)), (1, .int p1), (2, .int p2), (3, .int p3), (4, .int p4)]) := lv_sub hl [0, 1, 2, 3, 4, 5, 6] rfl
          exact join8 _ _ _ _ ⟨l7_j6, rfl, hP, hD, hS, hl⟩
        · have t_214 : ¬ v61.toInt ≥ 0 := toL_nge c_214 rfl (by decide : (0 : Int64).toInt = 0)
          refine lv_iload hx hb dX10_scaled_217 (lv_at hl 0 rfl) ?_
          refine lv_ineg hx hb dX10_scaled_219 ?_
          refine lv_topi (fun y63 hy63 => ?_)
          obtain rfl : (iI (-l7_j6.toInt)) = y63 := (hy63.trans (iI_neg2 (iI_of _))).symm
          refine lv_goto (tgt := 225) hx hb dX10_scaled_220 (by decide) ?_
          have hl : lv_has _ _ ([(7, .int l7_j6), (5, .long v2), (0, .ref (hL 0)), (1, .int p1), (2, .int p2), (3, .int p3), (4, .int p4)]) := lv_sub hl [0, 1, 2, 3, 4, 5, 6] rfl
          exact join8 _ _ _ _ ⟨(iI (-l7_j6.toInt)), rfl, hP, hD, hS, hl⟩
      · rintro H locs ls stk ⟨k0_j8, rfl, hP, hD, hS, hl⟩
        refine vx_ret ?_
        refine W.known (fun hz9 _ => ?_)
        refine W.widen (k := 1) (n := 6) (by decide +kernel) (by decide +kernel) ?_
        exact W.iret (v := k0_j8) hx hb hr (fun t9_ ht hW => ⟨⟨k0_j8, (jL_scaleOver_j6, jL_scaleUnder_j6, iT_fault, iT_place, fM_kept_j6), rfl, trivial, by rw [ht]; exact hP, hD, by rw [ht]; first | done | exact Nat.le_antisymm hz9 hS.1⟩, hS.F ht⟩) hS.2.2 dX10_scaled_225
  · have t_15 : v2.toInt = 0 := toL_nne c_15 rfl (by decide : (0 : Int64).toInt = 0)
    refine lv_iconst (v := 0) hx hb dX10_scaled_18 (by decide) ?_
    refine vx_ret ?_
    refine W.known (fun hz9 _ => ?_)
    refine W.widen (k := 1) (n := 6) (by decide +kernel) (by decide +kernel) ?_
    exact W.iret (v := 0) hx hb hr (fun t9_ ht hW => ⟨⟨(0 : Int32), (jL_scaleOver, jL_scaleUnder, iT_fault, iT_place, fM_kept), rfl, trivial, by rw [ht]; exact hP, hD, by rw [ht]; first | done | exact Nat.le_antisymm hz9 hS.1⟩, hS.F ht⟩) hS.2.2 dX10_scaled_19
theorem dX10_keepWay_0 : decode cX10_keepWay 0 = .ok (.aload_n 0, 1) := dk_42 (by decide +kernel)
theorem dX10_keepWay_1 : decode cX10_keepWay 1 = .ok (.getfield 55, 3) := dk_180 (by decide +kernel)
theorem dX10_keepWay_4 : decode cX10_keepWay 4 = .ok (.iload_n 3, 1) := dk_29 (by decide +kernel)
theorem dX10_keepWay_5 : decode cX10_keepWay 5 = .ok (.iconst 1, 1) := dk_4 (by decide +kernel)
theorem dX10_keepWay_6 : decode cX10_keepWay 6 = .ok (.iadd, 1) := dk_96 (by decide +kernel)
theorem dX10_keepWay_7 : decode cX10_keepWay 7 = .ok (.iaload, 1) := dk_46 (by decide +kernel)
theorem dX10_keepWay_8 : decode cX10_keepWay 8 = .ok (.istore 4, 2) := dk_54 (by decide +kernel)
theorem dX10_keepWay_10 : decode cX10_keepWay 10 = .ok (.aload_n 0, 1) := dk_42 (by decide +kernel)
theorem dX10_keepWay_11 : decode cX10_keepWay 11 = .ok (.getfield 51, 3) := dk_180 (by decide +kernel)
theorem dX10_keepWay_14 : decode cX10_keepWay 14 = .ok (.iload_n 1, 1) := dk_27 (by decide +kernel)
theorem dX10_keepWay_15 : decode cX10_keepWay 15 = .ok (.iload_n 2, 1) := dk_28 (by decide +kernel)
theorem dX10_keepWay_16 : decode cX10_keepWay 16 = .ok (.invokevirtual 152, 3) := dk_182 (by decide +kernel)
theorem dX10_keepWay_19 : decode cX10_keepWay 19 = .ok (.aload_n 0, 1) := dk_42 (by decide +kernel)
theorem dX10_keepWay_20 : decode cX10_keepWay 20 = .ok (.lconst 0, 1) := dk_9 (by decide +kernel)
theorem dX10_keepWay_21 : decode cX10_keepWay 21 = .ok (.putfield 155, 3) := dk_181 (by decide +kernel)
theorem dX10_keepWay_24 : decode cX10_keepWay 24 = .ok (.aload_n 0, 1) := dk_42 (by decide +kernel)
theorem dX10_keepWay_25 : decode cX10_keepWay 25 = .ok (.lconst 1, 1) := dk_10 (by decide +kernel)
theorem dX10_keepWay_26 : decode cX10_keepWay 26 = .ok (.putfield 159, 3) := dk_181 (by decide +kernel)
theorem dX10_keepWay_29 : decode cX10_keepWay 29 = .ok (.iconst 0, 1) := dk_3 (by decide +kernel)
theorem dX10_keepWay_30 : decode cX10_keepWay 30 = .ok (.istore 5, 2) := dk_54 (by decide +kernel)
theorem dX10_keepWay_32 : decode cX10_keepWay 32 = .ok (.iload 5, 2) := dk_21 (by decide +kernel)
theorem dX10_keepWay_34 : decode cX10_keepWay 34 = .ok (.aload_n 0, 1) := dk_42 (by decide +kernel)
theorem dX10_keepWay_35 : decode cX10_keepWay 35 = .ok (.getfield 51, 3) := dk_180 (by decide +kernel)
theorem dX10_keepWay_38 : decode cX10_keepWay 38 = .ok (.getfield 93, 3) := dk_180 (by decide +kernel)
theorem dX10_keepWay_41 : decode cX10_keepWay 41 = .ok (.if_icmp .gt 15, 3) := dk_163 (by decide +kernel)
theorem dX10_keepWay_44 : decode cX10_keepWay 44 = .ok (.aload_n 0, 1) := dk_42 (by decide +kernel)
theorem dX10_keepWay_45 : decode cX10_keepWay 45 = .ok (.iload 5, 2) := dk_21 (by decide +kernel)
theorem dX10_keepWay_47 : decode cX10_keepWay 47 = .ok (.invokevirtual 162, 3) := dk_182 (by decide +kernel)
theorem dX10_keepWay_50 : decode cX10_keepWay 50 = .ok (.iinc 5 1, 3) := dk_132 (by decide +kernel)
theorem dX10_keepWay_53 : decode cX10_keepWay 53 = .ok (.goto (-21), 3) := dk_167 (by decide +kernel)
theorem dX10_keepWay_56 : decode cX10_keepWay 56 = .ok (.iconst 1, 1) := dk_4 (by decide +kernel)
theorem dX10_keepWay_57 : decode cX10_keepWay 57 = .ok (.istore 5, 2) := dk_54 (by decide +kernel)
theorem dX10_keepWay_59 : decode cX10_keepWay 59 = .ok (.iload 5, 2) := dk_21 (by decide +kernel)
theorem dX10_keepWay_61 : decode cX10_keepWay 61 = .ok (.aload_n 0, 1) := dk_42 (by decide +kernel)
theorem dX10_keepWay_62 : decode cX10_keepWay 62 = .ok (.getfield 51, 3) := dk_180 (by decide +kernel)
theorem dX10_keepWay_65 : decode cX10_keepWay 65 = .ok (.getfield 93, 3) := dk_180 (by decide +kernel)
theorem dX10_keepWay_68 : decode cX10_keepWay 68 = .ok (.if_icmp .gt 36, 3) := dk_163 (by decide +kernel)
theorem dX10_keepWay_71 : decode cX10_keepWay 71 = .ok (.aload_n 0, 1) := dk_42 (by decide +kernel)
theorem dX10_keepWay_72 : decode cX10_keepWay 72 = .ok (.iload_n 1, 1) := dk_27 (by decide +kernel)
theorem dX10_keepWay_73 : decode cX10_keepWay 73 = .ok (.iload_n 2, 1) := dk_28 (by decide +kernel)
theorem dX10_keepWay_74 : decode cX10_keepWay 74 = .ok (.iload 5, 2) := dk_21 (by decide +kernel)
theorem dX10_keepWay_76 : decode cX10_keepWay 76 = .ok (.iload 4, 2) := dk_21 (by decide +kernel)
theorem dX10_keepWay_78 : decode cX10_keepWay 78 = .ok (.invokevirtual 165, 3) := dk_182 (by decide +kernel)
theorem dX10_keepWay_81 : decode cX10_keepWay 81 = .ok (.istore 6, 2) := dk_54 (by decide +kernel)
theorem dX10_keepWay_83 : decode cX10_keepWay 83 = .ok (.aload_n 0, 1) := dk_42 (by decide +kernel)
theorem dX10_keepWay_84 : decode cX10_keepWay 84 = .ok (.getfield 51, 3) := dk_180 (by decide +kernel)
theorem dX10_keepWay_87 : decode cX10_keepWay 87 = .ok (.iload_n 1, 1) := dk_27 (by decide +kernel)
theorem dX10_keepWay_88 : decode cX10_keepWay 88 = .ok (.iload_n 2, 1) := dk_28 (by decide +kernel)
theorem dX10_keepWay_89 : decode cX10_keepWay 89 = .ok (.iload 5, 2) := dk_21 (by decide +kernel)
theorem dX10_keepWay_91 : decode cX10_keepWay 91 = .ok (.iconst 1, 1) := dk_4 (by decide +kernel)
theorem dX10_keepWay_92 : decode cX10_keepWay 92 = .ok (.isub, 1) := dk_100 (by decide +kernel)
theorem dX10_keepWay_93 : decode cX10_keepWay 93 = .ok (.iload 6, 2) := dk_21 (by decide +kernel)
theorem dX10_keepWay_95 : decode cX10_keepWay 95 = .ok (.invokevirtual 169, 3) := dk_182 (by decide +kernel)
theorem dX10_keepWay_98 : decode cX10_keepWay 98 = .ok (.iinc 5 1, 3) := dk_132 (by decide +kernel)
theorem dX10_keepWay_101 : decode cX10_keepWay 101 = .ok (.goto (-42), 3) := dk_167 (by decide +kernel)
theorem dX10_keepWay_104 : decode cX10_keepWay 104 = .ok (.aload_n 0, 1) := dk_42 (by decide +kernel)
theorem dX10_keepWay_105 : decode cX10_keepWay 105 = .ok (.iload_n 1, 1) := dk_27 (by decide +kernel)
theorem dX10_keepWay_106 : decode cX10_keepWay 106 = .ok (.iload_n 2, 1) := dk_28 (by decide +kernel)
theorem dX10_keepWay_107 : decode cX10_keepWay 107 = .ok (.iconst 0, 1) := dk_3 (by decide +kernel)
theorem dX10_keepWay_108 : decode cX10_keepWay 108 = .ok (.iload 4, 2) := dk_21 (by decide +kernel)
theorem dX10_keepWay_110 : decode cX10_keepWay 110 = .ok (.invokevirtual 165, 3) := dk_182 (by decide +kernel)
theorem dX10_keepWay_113 : decode cX10_keepWay 113 = .ok (.istore 5, 2) := dk_54 (by decide +kernel)
theorem dX10_keepWay_115 : decode cX10_keepWay 115 = .ok (.aload_n 0, 1) := dk_42 (by decide +kernel)
theorem dX10_keepWay_116 : decode cX10_keepWay 116 = .ok (.getfield 51, 3) := dk_180 (by decide +kernel)
theorem dX10_keepWay_119 : decode cX10_keepWay 119 = .ok (.iload_n 1, 1) := dk_27 (by decide +kernel)
theorem dX10_keepWay_120 : decode cX10_keepWay 120 = .ok (.iload_n 2, 1) := dk_28 (by decide +kernel)
theorem dX10_keepWay_121 : decode cX10_keepWay 121 = .ok (.iload 5, 2) := dk_21 (by decide +kernel)
theorem dX10_keepWay_123 : decode cX10_keepWay 123 = .ok (.ineg, 1) := dk_116 (by decide +kernel)
theorem dX10_keepWay_124 : decode cX10_keepWay 124 = .ok (.aload_n 0, 1) := dk_42 (by decide +kernel)
theorem dX10_keepWay_125 : decode cX10_keepWay 125 = .ok (.getfield 55, 3) := dk_180 (by decide +kernel)
theorem dX10_keepWay_128 : decode cX10_keepWay 128 = .ok (.iload_n 3, 1) := dk_29 (by decide +kernel)
theorem dX10_keepWay_129 : decode cX10_keepWay 129 = .ok (.iconst 2, 1) := dk_5 (by decide +kernel)
theorem dX10_keepWay_130 : decode cX10_keepWay 130 = .ok (.iadd, 1) := dk_96 (by decide +kernel)
theorem dX10_keepWay_131 : decode cX10_keepWay 131 = .ok (.iaload, 1) := dk_46 (by decide +kernel)
theorem dX10_keepWay_132 : decode cX10_keepWay 132 = .ok (.invokestatic 173, 3) := dk_184 (by decide +kernel)
theorem dX10_keepWay_135 : decode cX10_keepWay 135 = .ok (.invokevirtual 176, 3) := dk_182 (by decide +kernel)
theorem dX10_keepWay_138 : decode cX10_keepWay 138 = .ok (.return_, 1) := dk_177 (by decide +kernel)
def wsMX10_keepWay : List Cond := .code yX10_keepWay cX10_keepWay 7 none :: ([.fieldLink RX10 55 "OptimaWorks$Worker" "tree" "[I", .fieldLink RX10 51 "OptimaWorks$Worker" "model" "LOptimaWorks$Model;", .fieldLink RX10 155 "OptimaWorks$Worker" "scaleOver" "J", .fieldLink RX10 159 "OptimaWorks$Worker" "scaleUnder" "J", .fieldLink RX10 93 "OptimaWorks$Model" "variables" "I"] ++ wsX10 ++ wsX100 ++ (wsV RX10 152 RX1 yX1_clearWay wsMX1_clearWay) ++ (wsV RX10 162 RX10 yX10_leaveDifference wsMX10_leaveDifference) ++ (wsV RX10 165 RX10 yX10_scaled wsMX10_scaled) ++ (wsV RX10 169 RX1 yX1_keepNumber wsMX1_keepNumber) ++ (va_wsS RX10 173 yX10_signOf wsMX10_signOf) ++ (wsV RX10 176 RX1 yX1_keepRight wsMX1_keepRight))
theorem iwsMX10_keepWay_in1 : ∀ w ∈ wsX10, w ∈ wsMX10_keepWay := fun _ h => List.mem_cons_of_mem _ (List.mem_append_left _ (List.mem_append_left _ (List.mem_append_left _ (List.mem_append_left _ (List.mem_append_left _ (List.mem_append_left _ (List.mem_append_left _ (List.mem_append_right _ h))))))))
theorem iwsMX10_keepWay_in10 : ∀ w ∈ wsX100, w ∈ wsMX10_keepWay := fun _ h => List.mem_cons_of_mem _ (List.mem_append_left _ (List.mem_append_left _ (List.mem_append_left _ (List.mem_append_left _ (List.mem_append_left _ (List.mem_append_left _ (List.mem_append_right _ h)))))))
theorem gwsMX10_keepWay_0 : GoodIn wsMX10_keepWay (wsV RX10 152 RX1 yX1_clearWay wsMX1_clearWay) := goodIn_sub (fun _ h => List.mem_cons_of_mem _ (List.mem_append_left _ (List.mem_append_left _ (List.mem_append_left _ (List.mem_append_left _ (List.mem_append_left _ (List.mem_append_right _ h))))))) (gdV (by decide +kernel) gdwsMX1_clearWay)
theorem gwsMX10_keepWay_1 : GoodIn wsMX10_keepWay (wsV RX10 162 RX10 yX10_leaveDifference wsMX10_leaveDifference) := goodIn_sub (fun _ h => List.mem_cons_of_mem _ (List.mem_append_left _ (List.mem_append_left _ (List.mem_append_left _ (List.mem_append_left _ (List.mem_append_right _ h)))))) (gdV (by decide +kernel) gdwsMX10_leaveDifference)
theorem gwsMX10_keepWay_2 : GoodIn wsMX10_keepWay (wsV RX10 165 RX10 yX10_scaled wsMX10_scaled) := goodIn_sub (fun _ h => List.mem_cons_of_mem _ (List.mem_append_left _ (List.mem_append_left _ (List.mem_append_left _ (List.mem_append_right _ h))))) (gdV (by decide +kernel) gdwsMX10_scaled)
theorem gwsMX10_keepWay_3 : GoodIn wsMX10_keepWay (wsV RX10 169 RX1 yX1_keepNumber wsMX1_keepNumber) := goodIn_sub (fun _ h => List.mem_cons_of_mem _ (List.mem_append_left _ (List.mem_append_left _ (List.mem_append_right _ h)))) (gdV (by decide +kernel) gdwsMX1_keepNumber)
theorem gwsMX10_keepWay_4 : GoodIn wsMX10_keepWay (va_wsS RX10 173 yX10_signOf wsMX10_signOf) := goodIn_sub (fun _ h => List.mem_cons_of_mem _ (List.mem_append_left _ (List.mem_append_right _ h))) (gdS (by decide +kernel) gdwsMX10_signOf)
theorem gwsMX10_keepWay_5 : GoodIn wsMX10_keepWay (wsV RX10 176 RX1 yX1_keepRight wsMX1_keepRight) := goodIn_sub (fun _ h => List.mem_cons_of_mem _ (List.mem_append_right _ h)) (gdV (by decide +kernel) gdwsMX1_keepRight)
theorem gdwsMX10_keepWay : wsMX10_keepWay.all goodWord = true := gdC rfl (gdA (gdA (gdA (gdA (gdA (gdA (gdA (gdA (by decide +kernel : ([.fieldLink RX10 55 "OptimaWorks$Worker" "tree" "[I", .fieldLink RX10 51 "OptimaWorks$Worker" "model" "LOptimaWorks$Model;", .fieldLink RX10 155 "OptimaWorks$Worker" "scaleOver" "J", .fieldLink RX10 159 "OptimaWorks$Worker" "scaleUnder" "J", .fieldLink RX10 93 "OptimaWorks$Model" "variables" "I"] : List Cond).all goodWord = true) gdwsX10) gdwsX100) (gdV (by decide +kernel) gdwsMX1_clearWay)) (gdV (by decide +kernel) gdwsMX10_leaveDifference)) (gdV (by decide +kernel) gdwsMX10_scaled)) (gdV (by decide +kernel) gdwsMX1_keepNumber)) (gdS (by decide +kernel) gdwsMX10_signOf)) (gdV (by decide +kernel) gdwsMX1_keepRight))
set_option maxHeartbeats 4000000 in
set_option maxRecDepth 100000 in
/-- a way is kept -/
theorem m_X10_keepWay (l : Launch) (hst : l.stackTraces = false) (dC : Nat → ClassId) (dI : Nat → Nat → Nat) (hL : Nat → Nat) (aL : Nat → Nat) (kL : Nat → ClassId) (hT : Nat → Nat) (hM : Nat → Nat) (iL_names : Int32) (gL_key : Nat → Int64) (fL_kind : Nat → Int32) (fL_one : Nat → Int32) (fL_two : Nat → Int32) (fL_base : Nat → Int32) (iL_params : Int32) (fL_paramOver : Nat → Int32) (dL_paramOver : Nat) (nL_params : Nat) (fL_paramUnder : Nat → Int32) (dL_paramUnder : Nat) (nL_pu : Nat) (gL_over : Nat → Int64) (gL_under : Nat → Int64) (fL_bound : Nat → Int32) (iL_nameAt : Int32) (iL_startAt : Int32) (iL_steps : Int32) (jL_scaleOver : Int64) (jL_scaleUnder : Int64) (hF : Nat → Nat) (aF : Nat → Nat) (kF : Nat → ClassId) (dF_tree : Nat) (nF_tree : Nat) (fF_tree : Nat → Int32) (aT : Nat → Nat) (kT : Nat → ClassId) (fT_tape : Nat → Int32) (dT_tape : Nat) (nT_tape : Nat) (iT_length : Int32) (iT_fault : Int32) (iT_place : Int32) (iT_kind : Int32) (iT_at : Int32) (iT_number : Int32) (jT_name : Int64) (iT_next : Int32) (aM : Nat → Nat) (kM : Nat → ClassId) (iM_stands : Int32) (iM_variables : Int32) (iM_rows : Int32) (iM_goals : Int32) (iM_differents : Int32) (iM_cases : Int32) (fM_from : Nat → Int32) (fM_to : Nat → Int32) (fM_whole : Nat → Int32) (fM_ways : Nat → Int32) (iM_plainRows : Int32) (fM_plainRow : Nat → Int32) (fM_kept : Nat → Int32) (fM_goalOver : Nat → Int32) (fM_goalUnder : Nat → Int32) (fM_goalMax : Nat → Int32) (fM_different : Nat → Int32) (p1 : Int32) (p2 : Int32) (p3 : Int32) (b_iL_names : 0 ≤ iL_names.toInt ∧ iL_names.toInt ≤ 40) (b_fL_kind : ∀ q : Nat, 0 ≤ (fL_kind q).toInt ∧ (fL_kind q).toInt ≤ 5) (b_fL_two : ∀ q : Nat, (-1) ≤ (fL_two q).toInt ∧ (fL_two q).toInt ≤ 39) (b_fL_base : ∀ q : Nat, 0 ≤ (fL_base q).toInt ∧ (fL_base q).toInt ≤ 2560) (b_iL_params : 0 ≤ iL_params.toInt ∧ iL_params.toInt ≤ 2560) (b_nL_params : 0 ≤ nL_params ∧ nL_params ≤ 2560) (b_nm : NmL iL_names fL_kind fL_one fL_two fL_base nL_params) (b_pm : iL_params.toInt ≤ ((nL_params : Nat) : Int)) (b_pu : nL_pu = nL_params) (b_nF_tree : 7 ≤ nF_tree ∧ nF_tree ≤ 72200) (b_fT_tape : ∀ q : Nat, (-128) ≤ (fT_tape q).toInt ∧ (fT_tape q).toInt ≤ 127) (b_nT_tape : 64 ≤ nT_tape ∧ nT_tape ≤ 2560) (b_iT_length : 0 ≤ iT_length.toInt ∧ iT_length.toInt ≤ 1280) (b_iT_at : 0 ≤ iT_at.toInt ∧ iT_at.toInt ≤ 1282) (b_iT_number : 0 ≤ iT_number.toInt ∧ iT_number.toInt ≤ 999999) (b_iT_next : 0 ≤ iT_next.toInt ∧ iT_next.toInt ≤ 1282) (b_len : iT_length.toInt ≤ ((nT_tape : Nat) : Int)) (b_iM_stands : 0 ≤ iM_stands.toInt ∧ iM_stands.toInt ≤ 1) (b_iM_variables : 0 ≤ iM_variables.toInt ∧ iM_variables.toInt ≤ 8) (b_iM_rows : 0 ≤ iM_rows.toInt ∧ iM_rows.toInt ≤ 12) (b_iM_goals : 0 ≤ iM_goals.toInt ∧ iM_goals.toInt ≤ 3) (b_iM_differents : 0 ≤ iM_differents.toInt ∧ iM_differents.toInt ≤ 8) (b_iM_cases : 0 ≤ iM_cases.toInt ∧ iM_cases.toInt ≤ 200000) (b_fM_ways : ∀ q : Nat, 0 ≤ (fM_ways q).toInt ∧ (fM_ways q).toInt ≤ 3) (b_iM_plainRows : 0 ≤ iM_plainRows.toInt ∧ iM_plainRows.toInt ≤ 12) (b_fM_plainRow : ∀ q : Nat, 0 ≤ (fM_plainRow q).toInt ∧ (fM_plainRow q).toInt ≤ 11) (b_pr : iM_plainRows.toInt ≤ iM_rows.toInt) (b_p1 : 0 ≤ p1.toInt ∧ p1.toInt ≤ 11) (b_p2 : 0 ≤ p2.toInt ∧ p2.toInt ≤ 2) (hp3 : 7 ≤ p3.toInt ∧ p3.toInt + 7 ≤ ((nF_tree : Nat) : Int)) (sz : Nat) : vx_Met l yX10_keepWay wsMX10_keepWay ({ frames := 8, cells := 1, slots := 6, locals := 138 }) (va_Pc [.ref (hL 0), .int p1, .int p2, .int p3] (fun U => U.heap.size = sz ∧ va_P (dC, dI) vwCl (WL hL aL kL hT hM (.ref dF_tree) iL_names gL_key fL_kind fL_one fL_two fL_base iL_params fL_paramOver dL_paramOver nL_params fL_paramUnder dL_paramUnder nL_pu gL_over gL_under fL_bound iL_nameAt iL_startAt iL_steps jL_scaleOver jL_scaleUnder ++ (WF hF aF kF dF_tree nF_tree fF_tree ++ (WT hT aT kT fT_tape dT_tape nT_tape iT_length iT_fault iT_place iT_kind iT_at iT_number jT_name iT_next ++ (WM hM aM kM iM_stands iM_variables iM_rows iM_goals iM_differents iM_cases fM_from fM_to fM_whole fM_ways iM_plainRows fM_plainRow fM_kept fM_goalOver fM_goalUnder fM_goalMax fM_different)))) U.heap ∧ va_K (dC, dI) vwCl (tL kL ++ (tF kF ++ (tT kT ++ (tM kM)))) U ∧ va_D (fun _ => True) (WL hL aL kL hT hM (.ref dF_tree) iL_names gL_key fL_kind fL_one fL_two fL_base iL_params fL_paramOver dL_paramOver nL_params fL_paramUnder dL_paramUnder nL_pu gL_over gL_under fL_bound iL_nameAt iL_startAt iL_steps jL_scaleOver jL_scaleUnder ++ (WF hF aF kF dF_tree nF_tree fF_tree ++ (WT hT aT kT fT_tape dT_tape nT_tape iT_length iT_fault iT_place iT_kind iT_at iT_number jT_name iT_next ++ (WM hM aM kM iM_stands iM_variables iM_rows iM_goals iM_differents iM_cases fM_from fM_to fM_whole fM_ways iM_plainRows fM_plainRow fM_kept fM_goalOver fM_goalUnder fM_goalMax fM_different)))) ∧ CE (va_A (WL hL aL kL hT hM (.ref dF_tree) iL_names gL_key fL_kind fL_one fL_two fL_base iL_params fL_paramOver dL_paramOver nL_params fL_paramUnder dL_paramUnder nL_pu gL_over gL_under fL_bound iL_nameAt iL_startAt iL_steps jL_scaleOver jL_scaleUnder ++ (WF hF aF kF dF_tree nF_tree fF_tree ++ (WT hT aT kT fT_tape dT_tape nT_tape iT_length iT_fault iT_place iT_kind iT_at iT_number jT_name iT_next ++ (WM hM aM kM iM_stands iM_variables iM_rows iM_goals iM_differents iM_cases fM_from fM_to fM_whole fM_ways iM_plainRows fM_plainRow fM_kept fM_goalOver fM_goalUnder fM_goalMax fM_different)))) sz) U U.heap)) (va_Qv (fun (u : (Nat → Int64) × (Nat → Int64) × (Int64) × (Int64) × (Int32) × (Int32) × (Nat → Int32)) => True) (fun (u : (Nat → Int64) × (Nat → Int64) × (Int64) × (Int64) × (Int32) × (Int32) × (Nat → Int32)) t => va_P (dC, dI) vwCl (WL hL aL kL hT hM (.ref dF_tree) iL_names gL_key fL_kind fL_one fL_two fL_base iL_params fL_paramOver dL_paramOver nL_params fL_paramUnder dL_paramUnder nL_pu (u.1) (u.2.1) fL_bound iL_nameAt iL_startAt iL_steps (u.2.2.1) (u.2.2.2.1) ++ (WF hF aF kF dF_tree nF_tree fF_tree ++ (WT hT aT kT fT_tape dT_tape nT_tape iT_length (u.2.2.2.2.1) (u.2.2.2.2.2.1) iT_kind iT_at iT_number jT_name iT_next ++ (WM hM aM kM iM_stands iM_variables iM_rows iM_goals iM_differents iM_cases fM_from fM_to fM_whole fM_ways iM_plainRows fM_plainRow (u.2.2.2.2.2.2) fM_goalOver fM_goalUnder fM_goalMax fM_different)))) t.heap ∧ va_D (va_A (WL hL aL kL hT hM (.ref dF_tree) iL_names gL_key fL_kind fL_one fL_two fL_base iL_params fL_paramOver dL_paramOver nL_params fL_paramUnder dL_paramUnder nL_pu gL_over gL_under fL_bound iL_nameAt iL_startAt iL_steps jL_scaleOver jL_scaleUnder ++ (WF hF aF kF dF_tree nF_tree fF_tree ++ (WT hT aT kT fT_tape dT_tape nT_tape iT_length iT_fault iT_place iT_kind iT_at iT_number jT_name iT_next ++ (WM hM aM kM iM_stands iM_variables iM_rows iM_goals iM_differents iM_cases fM_from fM_to fM_whole fM_ways iM_plainRows fM_plainRow fM_kept fM_goalOver fM_goalUnder fM_goalMax fM_different)))) sz) (WL hL aL kL hT hM (.ref dF_tree) iL_names gL_key fL_kind fL_one fL_two fL_base iL_params fL_paramOver dL_paramOver nL_params fL_paramUnder dL_paramUnder nL_pu (u.1) (u.2.1) fL_bound iL_nameAt iL_startAt iL_steps (u.2.2.1) (u.2.2.2.1) ++ (WF hF aF kF dF_tree nF_tree fF_tree ++ (WT hT aT kT fT_tape dT_tape nT_tape iT_length (u.2.2.2.2.1) (u.2.2.2.2.2.1) iT_kind iT_at iT_number jT_name iT_next ++ (WM hM aM kM iM_stands iM_variables iM_rows iM_goals iM_differents iM_cases fM_from fM_to fM_whole fM_ways iM_plainRows fM_plainRow (u.2.2.2.2.2.2) fM_goalOver fM_goalUnder fM_goalMax fM_different)))) ∧ t.heap.size = sz) (va_A (WL hL aL kL hT hM (.ref dF_tree) iL_names gL_key fL_kind fL_one fL_two fL_base iL_params fL_paramOver dL_paramOver nL_params fL_paramUnder dL_paramUnder nL_pu gL_over gL_under fL_bound iL_nameAt iL_startAt iL_steps jL_scaleOver jL_scaleUnder ++ (WF hF aF kF dF_tree nF_tree fF_tree ++ (WT hT aT kT fT_tape dT_tape nT_tape iT_length iT_fault iT_place iT_kind iT_at iT_number jT_name iT_next ++ (WM hM aM kM iM_stands iM_variables iM_rows iM_goals iM_differents iM_cases fM_from fM_to fM_whole fM_ways iM_plainRows fM_plainRow fM_kept fM_goalOver fM_goalUnder fM_goalMax fM_different)))) sz)) (vx_X (fun (u : (Nat → Int64) × (Nat → Int64) × (Int64) × (Int64) × (Int32) × (Int32) × (Nat → Int32)) => True) (fun E (u : (Nat → Int64) × (Nat → Int64) × (Int64) × (Int64) × (Int32) × (Int32) × (Nat → Int32)) t => (E = "java/lang/IllegalArgumentException") ∧ va_P (dC, dI) vwCl (WL hL aL kL hT hM (.ref dF_tree) iL_names gL_key fL_kind fL_one fL_two fL_base iL_params fL_paramOver dL_paramOver nL_params fL_paramUnder dL_paramUnder nL_pu (u.1) (u.2.1) fL_bound iL_nameAt iL_startAt iL_steps (u.2.2.1) (u.2.2.2.1) ++ (WF hF aF kF dF_tree nF_tree fF_tree ++ (WT hT aT kT fT_tape dT_tape nT_tape iT_length (u.2.2.2.2.1) (u.2.2.2.2.2.1) iT_kind iT_at iT_number jT_name iT_next ++ (WM hM aM kM iM_stands iM_variables iM_rows iM_goals iM_differents iM_cases fM_from fM_to fM_whole fM_ways iM_plainRows fM_plainRow (u.2.2.2.2.2.2) fM_goalOver fM_goalUnder fM_goalMax fM_different)))) t.heap ∧ va_D (va_A (WL hL aL kL hT hM (.ref dF_tree) iL_names gL_key fL_kind fL_one fL_two fL_base iL_params fL_paramOver dL_paramOver nL_params fL_paramUnder dL_paramUnder nL_pu gL_over gL_under fL_bound iL_nameAt iL_startAt iL_steps jL_scaleOver jL_scaleUnder ++ (WF hF aF kF dF_tree nF_tree fF_tree ++ (WT hT aT kT fT_tape dT_tape nT_tape iT_length iT_fault iT_place iT_kind iT_at iT_number jT_name iT_next ++ (WM hM aM kM iM_stands iM_variables iM_rows iM_goals iM_differents iM_cases fM_from fM_to fM_whole fM_ways iM_plainRows fM_plainRow fM_kept fM_goalOver fM_goalUnder fM_goalMax fM_different)))) sz) (WL hL aL kL hT hM (.ref dF_tree) iL_names gL_key fL_kind fL_one fL_two fL_base iL_params fL_paramOver dL_paramOver nL_params fL_paramUnder dL_paramUnder nL_pu (u.1) (u.2.1) fL_bound iL_nameAt iL_startAt iL_steps (u.2.2.1) (u.2.2.2.1) ++ (WF hF aF kF dF_tree nF_tree fF_tree ++ (WT hT aT kT fT_tape dT_tape nT_tape iT_length (u.2.2.2.2.1) (u.2.2.2.2.2.1) iT_kind iT_at iT_number jT_name iT_next ++ (WM hM aM kM iM_stands iM_variables iM_rows iM_goals iM_differents iM_cases fM_from fM_to fM_whole fM_ways iM_plainRows fM_plainRow (u.2.2.2.2.2.2) fM_goalOver fM_goalUnder fM_goalMax fM_different))))) (va_A (WL hL aL kL hT hM (.ref dF_tree) iL_names gL_key fL_kind fL_one fL_two fL_base iL_params fL_paramOver dL_paramOver nL_params fL_paramUnder dL_paramUnder nL_pu gL_over gL_under fL_bound iL_nameAt iL_startAt iL_steps jL_scaleOver jL_scaleUnder ++ (WF hF aF kF dF_tree nF_tree fF_tree ++ (WT hT aT kT fT_tape dT_tape nT_tape iT_length iT_fault iT_place iT_kind iT_at iT_number jT_name iT_next ++ (WM hM aM kM iM_stands iM_variables iM_rows iM_goals iM_differents iM_cases fM_from fM_to fM_whole fM_ways iM_plainRows fM_plainRow fM_kept fM_goalOver fM_goalUnder fM_goalMax fM_different)))) sz)) 1 6 (va_A (WL hL aL kL hT hM (.ref dF_tree) iL_names gL_key fL_kind fL_one fL_two fL_base iL_params fL_paramOver dL_paramOver nL_params fL_paramUnder dL_paramUnder nL_pu gL_over gL_under fL_bound iL_nameAt iL_startAt iL_steps jL_scaleOver jL_scaleUnder ++ (WF hF aF kF dF_tree nF_tree fF_tree ++ (WT hT aT kT fT_tape dT_tape nT_tape iT_length iT_fault iT_place iT_kind iT_at iT_number jT_name iT_next ++ (WM hM aM kM iM_stands iM_variables iM_rows iM_goals iM_differents iM_cases fM_from fM_to fM_whole fM_ways iM_plainRows fM_plainRow fM_kept fM_goalOver fM_goalUnder fM_goalMax fM_different)))) sz) := by
  refine vx_ofW (cc := cX10_keepWay) (maxL := 7) (ret := none) (by decide) rfl ?_
  intro p e s m args below meth c s₁ B hml htab hv
  obtain ⟨rfl, hsz, hP, hK, hD0, hE⟩ := hv
  have hx := B.exec
  have hb := B.bytes
  have hr := B.returns
  have hts := atoms_spec (ws := wsMX10_keepWay) B.pre
  have hown : s.vm.findClass RX10 = some m.cls := findClass_of_methodNamed B.named
  have hlocks := B.notSynchronized
  subst hsz
  have hD := hD0.self (sz := s.heap.size)
  generalize hAe : va_A (WL hL aL kL hT hM (.ref dF_tree) iL_names gL_key fL_kind fL_one fL_two fL_base iL_params fL_paramOver dL_paramOver nL_params fL_paramUnder dL_paramUnder nL_pu gL_over gL_under fL_bound iL_nameAt iL_startAt iL_steps jL_scaleOver jL_scaleUnder ++ (WF hF aF kF dF_tree nF_tree fF_tree ++ (WT hT aT kT fT_tape dT_tape nT_tape iT_length iT_fault iT_place iT_kind iT_at iT_number jT_name iT_next ++ (WM hM aM kM iM_stands iM_variables iM_rows iM_goals iM_differents iM_cases fM_from fM_to fM_whole fM_ways iM_plainRows fM_plainRow fM_kept fM_goalOver fM_goalUnder fM_goalMax fM_different)))) s.heap.size = A at hD hE ⊢
  have hA : ∀ q : Nat, s.heap.size ≤ q → A q := fun q h => by rw [← hAe]; exact Or.inr h
  have hS : va_S A s.heap s.heap [] := va_S.rf
  have hl := lv_entry ([.ref (hL 0), .int p1, .int p2, .int p3]) (n := 7) (Nat.le_of_ble_eq_true rfl)
  rw [lg_entry_eq]
  generalize (lg_sl ([.ref (hL 0), .int p1, .int p2, .int p3]) ++ List.replicate (7 - (lg_sl ([.ref (hL 0), .int p1, .int p2, .int p3])).length) Slot.unset).toArray = ls at hl ⊢
  have hl : lv_has ls 7 [(0, .ref (hL 0)), (1, .int p1), (2, .int p2), (3, .int p3)] := hl
  refine lv_aload_n hx hb dX10_keepWay_0 rfl (lv_at hl 0 rfl) ?_
  refine va_get (D := (dC, dI)) (ci := 10) (v := .ref dF_tree) (C := RX10) (T := TX10) (N := 20) hx hb hts iwsMX10_keepWay_in10 hown hK hP 0 rfl rfl 2 (by decide) (hts (.fieldLink RX10 55 "OptimaWorks$Worker" "tree" "[I") (by decide +kernel)) (fun _ h9 => h9) rfl dX10_keepWay_1 ?_
  refine lv_iload_n hx hb dX10_keepWay_4 rfl (lv_at hl 3 rfl) ?_
  refine lv_iconst (v := 1) hx hb dX10_keepWay_5 (by decide) ?_
  refine lv_iadd hx hb dX10_keepWay_6 ?_
  refine lv_topi (fun y1 hy1 => ?_)
  obtain rfl : (iI (p3.toInt + 1)) = y1 := (hy1.trans (iI_add2 (iI_of _) (by decide : (1 : Int32) = iI 1))).symm
  refine va_iald (cA := kF 0) (n := nF_tree) (f := fF_tree) hx hb hK hP 11 10 rfl rfl (vp_iI (by omega) (by omega) (by omega)) dX10_keepWay_7 ?_
  refine lv_topi (fun v2 hv2 => ?_)
  have b_v2 : v2.toInt = twL fF_tree (p3.toInt + 1) := by rw [hv2]; exact tw_i (by omega) (by omega)
  clear hv2
  refine lv_istore hx hb dX10_keepWay_8 hl (by decide) rfl (fun ls (hl : lv_has ls _ ([(4, .int v2), (0, .ref (hL 0)), (1, .int p1), (2, .int p2), (3, .int p3)])) => ?_)
  refine lv_aload_n hx hb dX10_keepWay_10 rfl (lv_at hl 1 rfl) ?_
  refine va_get (D := (dC, dI)) (ci := 10) (v := .ref (hM 0)) (C := RX10) (T := TX10) (N := 20) hx hb hts iwsMX10_keepWay_in10 hown hK hP 0 rfl rfl 1 (by decide) (hts (.fieldLink RX10 51 "OptimaWorks$Worker" "model" "LOptimaWorks$Model;") (by decide +kernel)) (fun _ h9 => h9) rfl dX10_keepWay_11 ?_
  refine lv_iload_n hx hb dX10_keepWay_14 rfl (lv_at hl 2 rfl) ?_
  refine lv_iload_n hx hb dX10_keepWay_15 rfl (lv_at hl 3 rfl) ?_
  have hPc : va_P (dC, dI) vwCl (WM hM aM kM iM_stands iM_variables iM_rows iM_goals iM_differents iM_cases fM_from fM_to fM_whole fM_ways iM_plainRows fM_plainRow fM_kept fM_goalOver fM_goalUnder fM_goalMax fM_different) _ := hP.sub [14, 15, 16, 17, 18, 19, 20, 21, 22, 23, 24] rfl
  have hDc : va_D _ (WM hM aM kM iM_stands iM_variables iM_rows iM_goals iM_differents iM_cases fM_from fM_to fM_whole fM_ways iM_plainRows fM_plainRow fM_kept fM_goalOver fM_goalUnder fM_goalMax fM_different) := hD.sub [14, 15, 16, 17, 18, 19, 20, 21, 22, 23, 24] (by decide) rfl
  have hKc : va_K (dC, dI) vwCl (tM kM) _ := hK.sub [12, 13, 14, 15, 16, 17, 18, 19, 20, 21] rfl
  have hFc := va_free (wc := WM hM aM kM iM_stands iM_variables iM_rows iM_goals iM_differents iM_cases fM_from fM_to fM_whole fM_ways iM_plainRows fM_plainRow fM_kept fM_goalOver fM_goalUnder fM_goalMax fM_different) hD hS hA [14, 15, 16, 17, 18, 19, 20, 21, 22, 23, 24] rfl
  refine va_callv (va_runV (As := [.int p1, .int p2]) (rest := []) ⟨hx, hb, hml, hown, hts⟩ (m_X1_clearWay l dC dI hM aM kM iM_stands iM_variables iM_rows iM_goals iM_differents iM_cases fM_from fM_to fM_whole fM_ways iM_plainRows fM_plainRow fM_kept fM_goalOver fM_goalUnder fM_goalMax fM_different p1 p2 (b_iM_stands) (b_iM_variables) (b_iM_rows) (b_iM_goals) (b_iM_differents) (b_iM_cases) b_fM_ways (b_iM_plainRows) b_fM_plainRow (by first | with_reducible assumption | omega | assumption) (b_p1) (b_p2) s.heap.size) (cwV 2 hts gwsMX10_keepWay_0 rfl rfl rfl hd_yX1_clearWay_RX1 (by decide +kernel)) (fz_pre (va_recv hK hP (ci := 1) (q0 := 14) rfl rfl) hPc hKc hDc) rfl rfl hl.1 rfl (lv_room (Nat.le_of_ble_eq_true rfl)) dX10_keepWay_16 (by decide +kernel)) hS (fun q _ h => hFc q h) hFc (fun fM_kept_3 t9_ H locs ht hvm hw9 hB9 hz1 hk1 hS => ?_)
  clear hw9
  obtain ⟨hP, hD⟩ := va_join (wr := [(hL 0, .inr (10, [.ref (hT 0), .ref (hM 0), (.ref dF_tree), .int iL_names, .ref (aL 0), .ref (aL 1), .ref (aL 2), .ref (aL 3), .ref (aL 4), .int iL_params, .ref dL_paramOver, .ref dL_paramUnder, .ref (aL 7), .ref (aL 8), .ref (aL 9), .int iL_nameAt, .int iL_startAt, .int iL_steps, .long jL_scaleOver, .long jL_scaleUnder])), (aL 0, .inl (kL 0, 40, .inr (.inl gL_key))), (aL 1, .inl (kL 1, 40, .inl fL_kind)), (aL 2, .inl (kL 2, 40, .inl fL_one)), (aL 3, .inl (kL 3, 40, .inl fL_two)), (aL 4, .inl (kL 4, 40, .inl fL_base)), (dL_paramOver, .inl (kL 5, nL_params, .inl fL_paramOver)), (dL_paramUnder, .inl (kL 6, nL_pu, .inl fL_paramUnder)), (aL 7, .inl (kL 7, 360, .inr (.inl gL_over))), (aL 8, .inl (kL 8, 360, .inr (.inl gL_under))), (aL 9, .inl (kL 9, 64, .inl fL_bound)), (dF_tree, .inl (kF 0, nF_tree, .inl fF_tree)), (hT 0, .inr (9, [.ref dT_tape, .int iT_length, .int iT_fault, .int iT_place, .int iT_kind, .int iT_at, .int iT_number, .long jT_name, .int iT_next])), (dT_tape, .inl (kT 0, nT_tape, .inl fT_tape))]) (w1 := WM hM aM kM iM_stands iM_variables iM_rows iM_goals iM_differents iM_cases fM_from fM_to fM_whole fM_ways iM_plainRows fM_plainRow fM_kept_3 fM_goalOver fM_goalUnder fM_goalMax fM_different) hP hD [14, 15, 16, 17, 18, 19, 20, 21, 22, 23, 24] [0, 1, 2, 3, 4, 5, 6, 7, 8, 9, 10, 11, 12, 13] rfl rfl (by decide) (by decide) hk1 hFc (fz_P ht hB9.1) hB9.2
  have hP : va_P (dC, dI) vwCl (WL hL aL kL hT hM (.ref dF_tree) iL_names gL_key fL_kind fL_one fL_two fL_base iL_params fL_paramOver dL_paramOver nL_params fL_paramUnder dL_paramUnder nL_pu gL_over gL_under fL_bound iL_nameAt iL_startAt iL_steps jL_scaleOver jL_scaleUnder ++ (WF hF aF kF dF_tree nF_tree fF_tree ++ (WT hT aT kT fT_tape dT_tape nT_tape iT_length iT_fault iT_place iT_kind iT_at iT_number jT_name iT_next ++ (WM hM aM kM iM_stands iM_variables iM_rows iM_goals iM_differents iM_cases fM_from fM_to fM_whole fM_ways iM_plainRows fM_plainRow fM_kept_3 fM_goalOver fM_goalUnder fM_goalMax fM_different)))) H := hP.sub [0, 1, 2, 3, 4, 5, 6, 7, 8, 9, 10, 11, 12, 13, 14, 15, 16, 17, 18, 19, 20, 21, 22, 23, 24] rfl
  have hD : va_D A (WL hL aL kL hT hM (.ref dF_tree) iL_names gL_key fL_kind fL_one fL_two fL_base iL_params fL_paramOver dL_paramOver nL_params fL_paramUnder dL_paramUnder nL_pu gL_over gL_under fL_bound iL_nameAt iL_startAt iL_steps jL_scaleOver jL_scaleUnder ++ (WF hF aF kF dF_tree nF_tree fF_tree ++ (WT hT aT kT fT_tape dT_tape nT_tape iT_length iT_fault iT_place iT_kind iT_at iT_number jT_name iT_next ++ (WM hM aM kM iM_stands iM_variables iM_rows iM_goals iM_differents iM_cases fM_from fM_to fM_whole fM_ways iM_plainRows fM_plainRow fM_kept_3 fM_goalOver fM_goalUnder fM_goalMax fM_different)))) := hD.sub [0, 1, 2, 3, 4, 5, 6, 7, 8, 9, 10, 11, 12, 13, 14, 15, 16, 17, 18, 19, 20, 21, 22, 23, 24] (by decide) rfl
  refine lv_aload_n hx hb dX10_keepWay_19 rfl (lv_at hl 1 rfl) ?_
  refine lv_lconst (v := 0) hx hb dX10_keepWay_20 (by decide) ?_
  refine va_put (D := (dC, dI)) (ci := 10) (v := .long 0) (ty := .long) (C := RX10) (T := TX10) (N := 20) hx hb hts iwsMX10_keepWay_in10 tyX10 tyX10_ok nmX10 hown hK hP hD hS 0 rfl rfl 18 (by decide) (hts (.fieldLink RX10 155 "OptimaWorks$Worker" "scaleOver" "J") (by decide +kernel)) (fun _ h9 => h9) rfl (by decide +kernel) rfl rfl (Nat.le_of_ble_eq_true rfl) dX10_keepWay_21 (fun H locs hP hD hS => ?_)
  have hP : va_P (dC, dI) vwCl (WL hL aL kL hT hM (.ref dF_tree) iL_names gL_key fL_kind fL_one fL_two fL_base iL_params fL_paramOver dL_paramOver nL_params fL_paramUnder dL_paramUnder nL_pu gL_over gL_under fL_bound iL_nameAt iL_startAt iL_steps 0 jL_scaleUnder ++ (WF hF aF kF dF_tree nF_tree fF_tree ++ (WT hT aT kT fT_tape dT_tape nT_tape iT_length iT_fault iT_place iT_kind iT_at iT_number jT_name iT_next ++ (WM hM aM kM iM_stands iM_variables iM_rows iM_goals iM_differents iM_cases fM_from fM_to fM_whole fM_ways iM_plainRows fM_plainRow fM_kept_3 fM_goalOver fM_goalUnder fM_goalMax fM_different)))) H := hP
  have hD : va_D A (WL hL aL kL hT hM (.ref dF_tree) iL_names gL_key fL_kind fL_one fL_two fL_base iL_params fL_paramOver dL_paramOver nL_params fL_paramUnder dL_paramUnder nL_pu gL_over gL_under fL_bound iL_nameAt iL_startAt iL_steps 0 jL_scaleUnder ++ (WF hF aF kF dF_tree nF_tree fF_tree ++ (WT hT aT kT fT_tape dT_tape nT_tape iT_length iT_fault iT_place iT_kind iT_at iT_number jT_name iT_next ++ (WM hM aM kM iM_stands iM_variables iM_rows iM_goals iM_differents iM_cases fM_from fM_to fM_whole fM_ways iM_plainRows fM_plainRow fM_kept_3 fM_goalOver fM_goalUnder fM_goalMax fM_different)))) := hD
  refine lv_aload_n hx hb dX10_keepWay_24 rfl (lv_at hl 1 rfl) ?_
  refine lv_lconst (v := 1) hx hb dX10_keepWay_25 (by decide) ?_
  refine va_put (D := (dC, dI)) (ci := 10) (v := .long 1) (ty := .long) (C := RX10) (T := TX10) (N := 20) hx hb hts iwsMX10_keepWay_in10 tyX10 tyX10_ok nmX10 hown hK hP hD hS 0 rfl rfl 19 (by decide) (hts (.fieldLink RX10 159 "OptimaWorks$Worker" "scaleUnder" "J") (by decide +kernel)) (fun _ h9 => h9) rfl (by decide +kernel) rfl rfl (Nat.le_of_ble_eq_true rfl) dX10_keepWay_26 (fun H locs hP hD hS => ?_)
  have hP : va_P (dC, dI) vwCl (WL hL aL kL hT hM (.ref dF_tree) iL_names gL_key fL_kind fL_one fL_two fL_base iL_params fL_paramOver dL_paramOver nL_params fL_paramUnder dL_paramUnder nL_pu gL_over gL_under fL_bound iL_nameAt iL_startAt iL_steps 0 1 ++ (WF hF aF kF dF_tree nF_tree fF_tree ++ (WT hT aT kT fT_tape dT_tape nT_tape iT_length iT_fault iT_place iT_kind iT_at iT_number jT_name iT_next ++ (WM hM aM kM iM_stands iM_variables iM_rows iM_goals iM_differents iM_cases fM_from fM_to fM_whole fM_ways iM_plainRows fM_plainRow fM_kept_3 fM_goalOver fM_goalUnder fM_goalMax fM_different)))) H := hP
  have hD : va_D A (WL hL aL kL hT hM (.ref dF_tree) iL_names gL_key fL_kind fL_one fL_two fL_base iL_params fL_paramOver dL_paramOver nL_params fL_paramUnder dL_paramUnder nL_pu gL_over gL_under fL_bound iL_nameAt iL_startAt iL_steps 0 1 ++ (WF hF aF kF dF_tree nF_tree fF_tree ++ (WT hT aT kT fT_tape dT_tape nT_tape iT_length iT_fault iT_place iT_kind iT_at iT_number jT_name iT_next ++ (WM hM aM kM iM_stands iM_variables iM_rows iM_goals iM_differents iM_cases fM_from fM_to fM_whole fM_ways iM_plainRows fM_plainRow fM_kept_3 fM_goalOver fM_goalUnder fM_goalMax fM_different)))) := hD
  refine lv_iconst (v := 0) hx hb dX10_keepWay_29 (by decide) ?_
  refine lv_istore hx hb dX10_keepWay_30 hl (by decide) rfl (fun ls (hl : lv_has ls _ ([(5, .int 0), (4, .int v2), (0, .ref (hL 0)), (1, .int p1), (2, .int p2), (3, .int p3)])) => ?_)
  have hl : lv_has _ _ ([(5, .int 0), (4, .int v2), (0, .ref (hL 0)), (1, .int p1), (2, .int p2), (3, .int p3)]) := lv_sub hl [0, 1, 2, 3, 4, 5] rfl
  refine (fun (loop : ∀ (n9 : Nat) (gL_over_x32 : Nat → Int64) (gL_under_x32 : Nat → Int64) (l5_x32 : Int32) (H : Heap) (locs : List Loc) (ls : Array Slot), (0 ≤ l5_x32.toInt ∧ l5_x32.toInt ≤ 9) → (9 - l5_x32.toInt < ((n9 : Nat) : Int)) → va_P (dC, dI) vwCl (WL hL aL kL hT hM (.ref dF_tree) iL_names gL_key fL_kind fL_one fL_two fL_base iL_params fL_paramOver dL_paramOver nL_params fL_paramUnder dL_paramUnder nL_pu gL_over_x32 gL_under_x32 fL_bound iL_nameAt iL_startAt iL_steps 0 1 ++ (WF hF aF kF dF_tree nF_tree fF_tree ++ (WT hT aT kT fT_tape dT_tape nT_tape iT_length iT_fault iT_place iT_kind iT_at iT_number jT_name iT_next ++ (WM hM aM kM iM_stands iM_variables iM_rows iM_goals iM_differents iM_cases fM_from fM_to fM_whole fM_ways iM_plainRows fM_plainRow fM_kept_3 fM_goalOver fM_goalUnder fM_goalMax fM_different)))) H → va_D A (WL hL aL kL hT hM (.ref dF_tree) iL_names gL_key fL_kind fL_one fL_two fL_base iL_params fL_paramOver dL_paramOver nL_params fL_paramUnder dL_paramUnder nL_pu gL_over_x32 gL_under_x32 fL_bound iL_nameAt iL_startAt iL_steps 0 1 ++ (WF hF aF kF dF_tree nF_tree fF_tree ++ (WT hT aT kT fT_tape dT_tape nT_tape iT_length iT_fault iT_place iT_kind iT_at iT_number jT_name iT_next ++ (WM hM aM kM iM_stands iM_variables iM_rows iM_goals iM_differents iM_cases fM_from fM_to fM_whole fM_ways iM_plainRows fM_plainRow fM_kept_3 fM_goalOver fM_goalUnder fM_goalMax fM_different)))) → va_S A s.heap H locs → lv_has ls 7 [(5, .int l5_x32), (4, .int v2), (0, .ref (hL 0)), (1, .int p1), (2, .int p2), (3, .int p3)] → W p l e _ s m _ below meth c H locs 0 0 _ (F0 m 32 ls [])) => loop (10) gL_over gL_under 0 _ _ _ (show 0 ≤ (0 : Int32).toInt ∧ (0 : Int32).toInt ≤ 9 from by decide) ((by have e9 : (0 : Int32).toInt = 0 := (by decide : (0 : Int32).toInt = 0); omega)) hP hD hS hl) ?_
  intro n9
  induction n9 with
  | zero => intro gL_over_x32 gL_under_x32 l5_x32 H locs ls b_l5_x32 hf9; exact False.elim (by omega)
  | succ n9 ihx32 =>
    intro gL_over_x32 gL_under_x32 l5_x32 H locs ls b_l5_x32 hfx32 hP hD hS hl
    refine lv_iload hx hb dX10_keepWay_32 (lv_at hl 0 rfl) ?_
    refine lv_aload_n hx hb dX10_keepWay_34 rfl (lv_at hl 2 rfl) ?_
    refine va_get (D := (dC, dI)) (ci := 10) (v := .ref (hM 0)) (C := RX10) (T := TX10) (N := 20) hx hb hts iwsMX10_keepWay_in10 hown hK hP 0 rfl rfl 1 (by decide) (hts (.fieldLink RX10 51 "OptimaWorks$Worker" "model" "LOptimaWorks$Model;") (by decide +kernel)) (fun _ h9 => h9) rfl dX10_keepWay_35 ?_
    refine va_get (D := (dC, dI)) (ci := 1) (v := .int iM_variables) (C := RX1) (T := TX1) (N := 17) hx hb hts iwsMX10_keepWay_in1 hown hK hP 14 rfl rfl 1 (by decide) (hts (.fieldLink RX10 93 "OptimaWorks$Model" "variables" "I") (by decide +kernel)) (fun _ h9 => h9) rfl dX10_keepWay_38 ?_
    refine lv_icmp_gt (tgt := 56) hx hb dX10_keepWay_41 (by decide) (fun c_41 => ?_) (fun c_41 => ?_)
    · have t_41 : l5_x32.toInt > iM_variables.toInt := toI_gt c_41 rfl rfl
      refine lv_iconst (v := 1) hx hb dX10_keepWay_56 (by decide) ?_
      refine lv_istore hx hb dX10_keepWay_57 hl (by decide) rfl (fun ls (hl : lv_has ls _ ([(5, .int 1), (4, .int v2), (0, .ref (hL 0)), (1, .int p1), (2, .int p2), (3, .int p3)])) => ?_)
      have hl : lv_has _ _ ([(5, .int 1), (4, .int v2), (0, .ref (hL 0)), (1, .int p1), (2, .int p2), (3, .int p3)]) := lv_sub hl [0, 1, 2, 3, 4, 5] rfl
      refine (fun (loop : ∀ (n9 : Nat) (jL_scaleOver_x59 : Int64) (jL_scaleUnder_x59 : Int64) (iT_fault_x59 : Int32) (iT_place_x59 : Int32) (fM_kept_x59 : Nat → Int32) (l5_x59 : Int32) (H : Heap) (locs : List Loc) (ls : Array Slot), (1 ≤ l5_x59.toInt ∧ l5_x59.toInt ≤ 9) → (9 - l5_x59.toInt < ((n9 : Nat) : Int)) → va_P (dC, dI) vwCl (WL hL aL kL hT hM (.ref dF_tree) iL_names gL_key fL_kind fL_one fL_two fL_base iL_params fL_paramOver dL_paramOver nL_params fL_paramUnder dL_paramUnder nL_pu gL_over_x32 gL_under_x32 fL_bound iL_nameAt iL_startAt iL_steps jL_scaleOver_x59 jL_scaleUnder_x59 ++ (WF hF aF kF dF_tree nF_tree fF_tree ++ (WT hT aT kT fT_tape dT_tape nT_tape iT_length iT_fault_x59 iT_place_x59 iT_kind iT_at iT_number jT_name iT_next ++ (WM hM aM kM iM_stands iM_variables iM_rows iM_goals iM_differents iM_cases fM_from fM_to fM_whole fM_ways iM_plainRows fM_plainRow fM_kept_x59 fM_goalOver fM_goalUnder fM_goalMax fM_different)))) H → va_D A (WL hL aL kL hT hM (.ref dF_tree) iL_names gL_key fL_kind fL_one fL_two fL_base iL_params fL_paramOver dL_paramOver nL_params fL_paramUnder dL_paramUnder nL_pu gL_over_x32 gL_under_x32 fL_bound iL_nameAt iL_startAt iL_steps jL_scaleOver_x59 jL_scaleUnder_x59 ++ (WF hF aF kF dF_tree nF_tree fF_tree ++ (WT hT aT kT fT_tape dT_tape nT_tape iT_length iT_fault_x59 iT_place_x59 iT_kind iT_at iT_number jT_name iT_next ++ (WM hM aM kM iM_stands iM_variables iM_rows iM_goals iM_differents iM_cases fM_from fM_to fM_whole fM_ways iM_plainRows fM_plainRow fM_kept_x59 fM_goalOver fM_goalUnder fM_goalMax fM_different)))) → va_S A s.heap H locs → lv_has ls 7 [(5, .int l5_x59), (4, .int v2), (0, .ref (hL 0)), (1, .int p1), (2, .int p2), (3, .int p3)] → W p l e _ s m _ below meth c H locs 0 0 _ (F0 m 59 ls [])) => loop (9) 0 1 iT_fault iT_place fM_kept_3 1 _ _ _ (show 1 ≤ (1 : Int32).toInt ∧ (1 : Int32).toInt ≤ 9 from by decide) ((by have e9 : (1 : Int32).toInt = 1 := (by decide : (1 : Int32).toInt = 1); omega)) hP hD hS hl) ?_
      intro n9
      induction n9 with
      | zero => intro jL_scaleOver_x59 jL_scaleUnder_x59 iT_fault_x59 iT_place_x59 fM_kept_x59 l5_x59 H locs ls b_l5_x59 hf9; exact False.elim (by omega)
      | succ n9 ihx59 =>
        intro jL_scaleOver_x59 jL_scaleUnder_x59 iT_fault_x59 iT_place_x59 fM_kept_x59 l5_x59 H locs ls b_l5_x59 hfx59 hP hD hS hl
        refine lv_iload hx hb dX10_keepWay_59 (lv_at hl 0 rfl) ?_
        refine lv_aload_n hx hb dX10_keepWay_61 rfl (lv_at hl 2 rfl) ?_
        refine va_get (D := (dC, dI)) (ci := 10) (v := .ref (hM 0)) (C := RX10) (T := TX10) (N := 20) hx hb hts iwsMX10_keepWay_in10 hown hK hP 0 rfl rfl 1 (by decide) (hts (.fieldLink RX10 51 "OptimaWorks$Worker" "model" "LOptimaWorks$Model;") (by decide +kernel)) (fun _ h9 => h9) rfl dX10_keepWay_62 ?_
        refine va_get (D := (dC, dI)) (ci := 1) (v := .int iM_variables) (C := RX1) (T := TX1) (N := 17) hx hb hts iwsMX10_keepWay_in1 hown hK hP 14 rfl rfl 1 (by decide) (hts (.fieldLink RX10 93 "OptimaWorks$Model" "variables" "I") (by decide +kernel)) (fun _ h9 => h9) rfl dX10_keepWay_65 ?_
        refine lv_icmp_gt (tgt := 104) hx hb dX10_keepWay_68 (by decide) (fun c_68 => ?_) (fun c_68 => ?_)
        · have t_68 : l5_x59.toInt > iM_variables.toInt := toI_gt c_68 rfl rfl
          refine lv_aload_n hx hb dX10_keepWay_104 rfl (lv_at hl 2 rfl) ?_
          refine lv_iload_n hx hb dX10_keepWay_105 rfl (lv_at hl 3 rfl) ?_
          refine lv_iload_n hx hb dX10_keepWay_106 rfl (lv_at hl 4 rfl) ?_
          refine lv_iconst (v := 0) hx hb dX10_keepWay_107 (by decide) ?_
          refine lv_iload hx hb dX10_keepWay_108 (lv_at hl 1 rfl) ?_
          refine W.known (fun hz0 _ => ?_)
          have hPc : va_P (dC, dI) vwCl (WL hL aL kL hT hM (.ref dF_tree) iL_names gL_key fL_kind fL_one fL_two fL_base iL_params fL_paramOver dL_paramOver nL_params fL_paramUnder dL_paramUnder nL_pu gL_over_x32 gL_under_x32 fL_bound iL_nameAt iL_startAt iL_steps jL_scaleOver_x59 jL_scaleUnder_x59 ++ (WT hT aT kT fT_tape dT_tape nT_tape iT_length iT_fault_x59 iT_place_x59 iT_kind iT_at iT_number jT_name iT_next ++ (WM hM aM kM iM_stands iM_variables iM_rows iM_goals iM_differents iM_cases fM_from fM_to fM_whole fM_ways iM_plainRows fM_plainRow fM_kept_x59 fM_goalOver fM_goalUnder fM_goalMax fM_different))) _ := hP.sub [0, 1, 2, 3, 4, 5, 6, 7, 8, 9, 10, 12, 13, 14, 15, 16, 17, 18, 19, 20, 21, 22, 23, 24] rfl
          have hDc : va_D _ (WL hL aL kL hT hM (.ref dF_tree) iL_names gL_key fL_kind fL_one fL_two fL_base iL_params fL_paramOver dL_paramOver nL_params fL_paramUnder dL_paramUnder nL_pu gL_over_x32 gL_under_x32 fL_bound iL_nameAt iL_startAt iL_steps jL_scaleOver_x59 jL_scaleUnder_x59 ++ (WT hT aT kT fT_tape dT_tape nT_tape iT_length iT_fault_x59 iT_place_x59 iT_kind iT_at iT_number jT_name iT_next ++ (WM hM aM kM iM_stands iM_variables iM_rows iM_goals iM_differents iM_cases fM_from fM_to fM_whole fM_ways iM_plainRows fM_plainRow fM_kept_x59 fM_goalOver fM_goalUnder fM_goalMax fM_different))) := hD.sub [0, 1, 2, 3, 4, 5, 6, 7, 8, 9, 10, 12, 13, 14, 15, 16, 17, 18, 19, 20, 21, 22, 23, 24] (by decide) rfl
          have hKc : va_K (dC, dI) vwCl (tL kL ++ (tT kT ++ (tM kM))) _ := hK.sub [0, 1, 2, 3, 4, 5, 6, 7, 8, 9, 11, 12, 13, 14, 15, 16, 17, 18, 19, 20, 21] rfl
          have hFc := va_free (wc := WL hL aL kL hT hM (.ref dF_tree) iL_names gL_key fL_kind fL_one fL_two fL_base iL_params fL_paramOver dL_paramOver nL_params fL_paramUnder dL_paramUnder nL_pu gL_over_x32 gL_under_x32 fL_bound iL_nameAt iL_startAt iL_steps jL_scaleOver_x59 jL_scaleUnder_x59 ++ (WT hT aT kT fT_tape dT_tape nT_tape iT_length iT_fault_x59 iT_place_x59 iT_kind iT_at iT_number jT_name iT_next ++ (WM hM aM kM iM_stands iM_variables iM_rows iM_goals iM_differents iM_cases fM_from fM_to fM_whole fM_ways iM_plainRows fM_plainRow fM_kept_x59 fM_goalOver fM_goalUnder fM_goalMax fM_different))) hD hS hA [0, 1, 2, 3, 4, 5, 6, 7, 8, 9, 10, 12, 13, 14, 15, 16, 17, 18, 19, 20, 21, 22, 23, 24] rfl
          refine vx_calli (vx_runV (As := [.int p1, .int p2, .int 0, .int v2]) (rest := []) ⟨hx, hb, hml, hown, hts⟩ (m_X10_scaled l hst dC dI hL aL kL hT hM (.ref dF_tree) iL_names gL_key fL_kind fL_one fL_two fL_base iL_params fL_paramOver dL_paramOver nL_params fL_paramUnder dL_paramUnder nL_pu gL_over_x32 gL_under_x32 fL_bound iL_nameAt iL_startAt iL_steps jL_scaleOver_x59 jL_scaleUnder_x59 aT kT fT_tape dT_tape nT_tape iT_length iT_fault_x59 iT_place_x59 iT_kind iT_at iT_number jT_name iT_next aM kM iM_stands iM_variables iM_rows iM_goals iM_differents iM_cases fM_from fM_to fM_whole fM_ways iM_plainRows fM_plainRow fM_kept_x59 fM_goalOver fM_goalUnder fM_goalMax fM_different p1 p2 0 v2 (b_iL_names) b_fL_kind b_fL_two b_fL_base (b_iL_params) (by first | exact b_nL_params | with_reducible assumption | exact ⟨by omega, by omega⟩ | assumption) (by first | with_reducible assumption | omega | (rw [iI_t (by omega) (by omega)]; omega) | assumption) (by first | with_reducible assumption | omega | (rw [iI_t (by omega) (by omega)]; omega) | assumption) (by first | with_reducible assumption | omega | (rw [iI_t (by omega) (by omega)]; omega) | assumption) b_fT_tape (by first | exact b_nT_tape | with_reducible assumption | exact ⟨by omega, by omega⟩ | assumption) (b_iT_length) (b_iT_at) (b_iT_number) (b_iT_next) (by first | with_reducible assumption | omega | assumption) (b_iM_stands) (b_iM_variables) (b_iM_rows) (b_iM_goals) (b_iM_differents) (b_iM_cases) b_fM_ways (b_iM_plainRows) b_fM_plainRow (by first | with_reducible assumption | omega | assumption) (b_p1) (b_p2) (show 0 ≤ (0 : Int32).toInt ∧ (0 : Int32).toInt ≤ 8 from by decide) H.size) (cwV 4 hts gwsMX10_keepWay_2 rfl rfl rfl hd_yX10_scaled_RX10 (by decide +kernel)) (fz_preE (va_recv hK hP (ci := 10) (q0 := 0) rfl rfl) hPc hKc hDc (fun a U g mk qE => qE.call) (fun U hU9 hW => by rw [hU9]; exact (((hE : CE A s s.heap).kept hS.2.1).narrow (fun q h => hFc q h)).warm hW)) rfl rfl hl.1 rfl (lv_room (Nat.le_of_ble_eq_true rfl)) dX10_keepWay_110 (by decide +kernel)) hS (fun q _ h => hFc q h) hFc (fun q _ h => hFc q h) (fun E ce q9 u t9_ H locs ht hvm hw9 hB9 hz1 hk1 hS hc1 hc2 hc3 => ?_) (fun r108 u t9_ H1 locs ht hvm hw9 hB9 hz1 hk1 hS => ?_)
          · revert u hw9 hB9
            refine fz_p5 ?_
            intro jL_scaleOver_108 jL_scaleUnder_108 iT_fault_108 iT_place_108 fM_kept_108 hw9 hB9
            try dsimp only at hw9 hB9
            revert hB9
            refine fz_a2 ?_
            intro hEx hB9
            clear hw9
            obtain ⟨hP, hD⟩ := va_join (wr := [(dF_tree, .inl (kF 0, nF_tree, .inl fF_tree))]) (w1 := WL hL aL kL hT hM (.ref dF_tree) iL_names gL_key fL_kind fL_one fL_two fL_base iL_params fL_paramOver dL_paramOver nL_params fL_paramUnder dL_paramUnder nL_pu gL_over_x32 gL_under_x32 fL_bound iL_nameAt iL_startAt iL_steps jL_scaleOver_108 jL_scaleUnder_108 ++ (WT hT aT kT fT_tape dT_tape nT_tape iT_length iT_fault_108 iT_place_108 iT_kind iT_at iT_number jT_name iT_next ++ (WM hM aM kM iM_stands iM_variables iM_rows iM_goals iM_differents iM_cases fM_from fM_to fM_whole fM_ways iM_plainRows fM_plainRow fM_kept_108 fM_goalOver fM_goalUnder fM_goalMax fM_different))) hP hD [0, 1, 2, 3, 4, 5, 6, 7, 8, 9, 10, 12, 13, 14, 15, 16, 17, 18, 19, 20, 21, 22, 23, 24] [11] rfl rfl (by decide) (by decide) hk1 hFc (fz_P ht hB9.1) hB9.2
            have hP : va_P (dC, dI) vwCl (WL hL aL kL hT hM (.ref dF_tree) iL_names gL_key fL_kind fL_one fL_two fL_base iL_params fL_paramOver dL_paramOver nL_params fL_paramUnder dL_paramUnder nL_pu gL_over_x32 gL_under_x32 fL_bound iL_nameAt iL_startAt iL_steps jL_scaleOver_108 jL_scaleUnder_108 ++ (WF hF aF kF dF_tree nF_tree fF_tree ++ (WT hT aT kT fT_tape dT_tape nT_tape iT_length iT_fault_108 iT_place_108 iT_kind iT_at iT_number jT_name iT_next ++ (WM hM aM kM iM_stands iM_variables iM_rows iM_goals iM_differents iM_cases fM_from fM_to fM_whole fM_ways iM_plainRows fM_plainRow fM_kept_108 fM_goalOver fM_goalUnder fM_goalMax fM_different)))) H := hP.sub [1, 2, 3, 4, 5, 6, 7, 8, 9, 10, 11, 0, 12, 13, 14, 15, 16, 17, 18, 19, 20, 21, 22, 23, 24] rfl
            have hD : va_D A (WL hL aL kL hT hM (.ref dF_tree) iL_names gL_key fL_kind fL_one fL_two fL_base iL_params fL_paramOver dL_paramOver nL_params fL_paramUnder dL_paramUnder nL_pu gL_over_x32 gL_under_x32 fL_bound iL_nameAt iL_startAt iL_steps jL_scaleOver_108 jL_scaleUnder_108 ++ (WF hF aF kF dF_tree nF_tree fF_tree ++ (WT hT aT kT fT_tape dT_tape nT_tape iT_length iT_fault_108 iT_place_108 iT_kind iT_at iT_number jT_name iT_next ++ (WM hM aM kM iM_stands iM_variables iM_rows iM_goals iM_differents iM_cases fM_from fM_to fM_whole fM_ways iM_plainRows fM_plainRow fM_kept_108 fM_goalOver fM_goalUnder fM_goalMax fM_different)))) := hD.sub [1, 2, 3, 4, 5, 6, 7, 8, 9, 10, 11, 0, 12, 13, 14, 15, 16, 17, 18, 19, 20, 21, 22, 23, 24] (by decide) rfl
            exact vx_out (fun x hx9 => (htab x hx9).elim) hlocks hc1 hc2 hc3 (fun t9_ ht hvm => ⟨(gL_over_x32, gL_under_x32, jL_scaleOver_108, jL_scaleUnder_108, iT_fault_108, iT_place_108, fM_kept_108), trivial, ⟨(by have h9 := hEx; exact h9), by rw [ht]; exact hP, hD⟩, hS.F ht⟩) hS.2.2 (by decide +kernel) (by decide +kernel)
          revert u hw9 hB9
          refine fz_p5 ?_
          intro jL_scaleOver_108 jL_scaleUnder_108 iT_fault_108 iT_place_108 fM_kept_108 hw9 hB9
          try dsimp only at hw9 hB9
          clear hw9
          revert hB9
          refine fz_a3 ?_
          intro hP1 hD1 hz8
          rw [ht] at hP1 hz8
          have hz9 : H1.size ≤ s.heap.size + 0 := by rw [hz8]; exact hz0
          refine W.tight (cells2 := 0) (slots2 := 0) hz9 (nS_0 hz9) ?_
          clear hz8 hz9
          obtain ⟨hP, hD⟩ := va_join (wr := [(dF_tree, .inl (kF 0, nF_tree, .inl fF_tree))]) (w1 := WL hL aL kL hT hM (.ref dF_tree) iL_names gL_key fL_kind fL_one fL_two fL_base iL_params fL_paramOver dL_paramOver nL_params fL_paramUnder dL_paramUnder nL_pu gL_over_x32 gL_under_x32 fL_bound iL_nameAt iL_startAt iL_steps jL_scaleOver_108 jL_scaleUnder_108 ++ (WT hT aT kT fT_tape dT_tape nT_tape iT_length iT_fault_108 iT_place_108 iT_kind iT_at iT_number jT_name iT_next ++ (WM hM aM kM iM_stands iM_variables iM_rows iM_goals iM_differents iM_cases fM_from fM_to fM_whole fM_ways iM_plainRows fM_plainRow fM_kept_108 fM_goalOver fM_goalUnder fM_goalMax fM_different))) hP hD [0, 1, 2, 3, 4, 5, 6, 7, 8, 9, 10, 12, 13, 14, 15, 16, 17, 18, 19, 20, 21, 22, 23, 24] [11] rfl rfl (by decide) (by decide) hk1 hFc hP1 hD1
          have hP : va_P (dC, dI) vwCl (WL hL aL kL hT hM (.ref dF_tree) iL_names gL_key fL_kind fL_one fL_two fL_base iL_params fL_paramOver dL_paramOver nL_params fL_paramUnder dL_paramUnder nL_pu gL_over_x32 gL_under_x32 fL_bound iL_nameAt iL_startAt iL_steps jL_scaleOver_108 jL_scaleUnder_108 ++ (WF hF aF kF dF_tree nF_tree fF_tree ++ (WT hT aT kT fT_tape dT_tape nT_tape iT_length iT_fault_108 iT_place_108 iT_kind iT_at iT_number jT_name iT_next ++ (WM hM aM kM iM_stands iM_variables iM_rows iM_goals iM_differents iM_cases fM_from fM_to fM_whole fM_ways iM_plainRows fM_plainRow fM_kept_108 fM_goalOver fM_goalUnder fM_goalMax fM_different)))) _ := hP.sub [1, 2, 3, 4, 5, 6, 7, 8, 9, 10, 11, 0, 12, 13, 14, 15, 16, 17, 18, 19, 20, 21, 22, 23, 24] rfl
          have hD : va_D _ (WL hL aL kL hT hM (.ref dF_tree) iL_names gL_key fL_kind fL_one fL_two fL_base iL_params fL_paramOver dL_paramOver nL_params fL_paramUnder dL_paramUnder nL_pu gL_over_x32 gL_under_x32 fL_bound iL_nameAt iL_startAt iL_steps jL_scaleOver_108 jL_scaleUnder_108 ++ (WF hF aF kF dF_tree nF_tree fF_tree ++ (WT hT aT kT fT_tape dT_tape nT_tape iT_length iT_fault_108 iT_place_108 iT_kind iT_at iT_number jT_name iT_next ++ (WM hM aM kM iM_stands iM_variables iM_rows iM_goals iM_differents iM_cases fM_from fM_to fM_whole fM_ways iM_plainRows fM_plainRow fM_kept_108 fM_goalOver fM_goalUnder fM_goalMax fM_different)))) := hD.sub [1, 2, 3, 4, 5, 6, 7, 8, 9, 10, 11, 0, 12, 13, 14, 15, 16, 17, 18, 19, 20, 21, 22, 23, 24] (by decide) rfl
          generalize H1 = H at hP hS ⊢
          have hP : va_P (dC, dI) vwCl (WL hL aL kL hT hM (.ref dF_tree) iL_names gL_key fL_kind fL_one fL_two fL_base iL_params fL_paramOver dL_paramOver nL_params fL_paramUnder dL_paramUnder nL_pu gL_over_x32 gL_under_x32 fL_bound iL_nameAt iL_startAt iL_steps jL_scaleOver_108 jL_scaleUnder_108 ++ (WF hF aF kF dF_tree nF_tree fF_tree ++ (WT hT aT kT fT_tape dT_tape nT_tape iT_length iT_fault_108 iT_place_108 iT_kind iT_at iT_number jT_name iT_next ++ (WM hM aM kM iM_stands iM_variables iM_rows iM_goals iM_differents iM_cases fM_from fM_to fM_whole fM_ways iM_plainRows fM_plainRow fM_kept_108 fM_goalOver fM_goalUnder fM_goalMax fM_different)))) H := hP
          have hD : va_D A (WL hL aL kL hT hM (.ref dF_tree) iL_names gL_key fL_kind fL_one fL_two fL_base iL_params fL_paramOver dL_paramOver nL_params fL_paramUnder dL_paramUnder nL_pu gL_over_x32 gL_under_x32 fL_bound iL_nameAt iL_startAt iL_steps jL_scaleOver_108 jL_scaleUnder_108 ++ (WF hF aF kF dF_tree nF_tree fF_tree ++ (WT hT aT kT fT_tape dT_tape nT_tape iT_length iT_fault_108 iT_place_108 iT_kind iT_at iT_number jT_name iT_next ++ (WM hM aM kM iM_stands iM_variables iM_rows iM_goals iM_differents iM_cases fM_from fM_to fM_whole fM_ways iM_plainRows fM_plainRow fM_kept_108 fM_goalOver fM_goalUnder fM_goalMax fM_different)))) := hD
          refine lv_istore hx hb dX10_keepWay_113 hl (by decide) rfl (fun ls (hl : lv_has ls _ ([(5, .int r108), (4, .int v2), (0, .ref (hL 0)), (1, .int p1), (2, .int p2), (3, .int p3)])) => ?_)
          refine lv_aload_n hx hb dX10_keepWay_115 rfl (lv_at hl 2 rfl) ?_
          refine va_get (D := (dC, dI)) (ci := 10) (v := .ref (hM 0)) (C := RX10) (T := TX10) (N := 20) hx hb hts iwsMX10_keepWay_in10 hown hK hP 0 rfl rfl 1 (by decide) (hts (.fieldLink RX10 51 "OptimaWorks$Worker" "model" "LOptimaWorks$Model;") (by decide +kernel)) (fun _ h9 => h9) rfl dX10_keepWay_116 ?_
          refine lv_iload_n hx hb dX10_keepWay_119 rfl (lv_at hl 3 rfl) ?_
          refine lv_iload_n hx hb dX10_keepWay_120 rfl (lv_at hl 4 rfl) ?_
          refine lv_iload hx hb dX10_keepWay_121 (lv_at hl 0 rfl) ?_
          refine lv_ineg hx hb dX10_keepWay_123 ?_
          refine lv_topi (fun y109 hy109 => ?_)
          obtain rfl : (iI (-r108.toInt)) = y109 := (hy109.trans (iI_neg2 (iI_of _))).symm
          refine lv_aload_n hx hb dX10_keepWay_124 rfl (lv_at hl 2 rfl) ?_
          refine va_get (D := (dC, dI)) (ci := 10) (v := .ref dF_tree) (C := RX10) (T := TX10) (N := 20) hx hb hts iwsMX10_keepWay_in10 hown hK hP 0 rfl rfl 2 (by decide) (hts (.fieldLink RX10 55 "OptimaWorks$Worker" "tree" "[I") (by decide +kernel)) (fun _ h9 => h9) rfl dX10_keepWay_125 ?_
          refine lv_iload_n hx hb dX10_keepWay_128 rfl (lv_at hl 5 rfl) ?_
          refine lv_iconst (v := 2) hx hb dX10_keepWay_129 (by decide) ?_
          refine lv_iadd hx hb dX10_keepWay_130 ?_
          refine lv_topi (fun y110 hy110 => ?_)
          obtain rfl : (iI (p3.toInt + 2)) = y110 := (hy110.trans (iI_add2 (iI_of _) (by decide : (2 : Int32) = iI 2))).symm
          refine va_iald (cA := kF 0) (n := nF_tree) (f := fF_tree) hx hb hK hP 11 10 rfl rfl (vp_iI (by omega) (by omega) (by omega)) dX10_keepWay_131 ?_
          refine lv_topi (fun v111 hv111 => ?_)
          have b_v111 : v111.toInt = twL fF_tree (p3.toInt + 2) := by rw [hv111]; exact tw_i (by omega) (by omega)
          clear hv111
          have hFc := noneFree hS hA
          refine va_calli (va_runS (As := [.int v111]) (rest := [.int (iI (-r108.toInt)), .int p2, .int p1, .ref (hM 0)]) ⟨hx, hb, hml, hown, hts⟩ (m_X10_signOf l dC dI v111 H.size) (va_cwS 1 hts gwsMX10_keepWay_4 rfl rfl rfl (by decide +kernel) ⟨by decide +kernel, by decide +kernel⟩) ⟨fun a U g mk q => by obtain ⟨q0, q1, qP, qK, qD⟩ := q; exact ⟨q0, q1, qP, va_K.moved (u := U) (U := U.calling g mk a) (Vm.Alike.refl U.vm) qK, qD⟩, fun U hU9 hW => ⟨rfl, by rw [hU9], by rw [hU9]; exact nilP, va_K.moved hW.alike (hK.sub (tys' := []) [] rfl), nilD⟩⟩ rfl rfl hl.1 rfl (lv_room (Nat.le_of_ble_eq_true rfl)) dX10_keepWay_132 (by decide +kernel)) hS (fun q _ h => hFc q h) hFc (fun r112 u t9_ H1 locs ht hvm hw9 hB9 hz1 hk1 hS => ?_)
          have b_r112 := hw9
          try dsimp only at b_r112
          clear hB9
          have hP := keepAll hP hk1
          generalize H1 = H at hP hS ⊢
          have hP : va_P (dC, dI) vwCl (WL hL aL kL hT hM (.ref dF_tree) iL_names gL_key fL_kind fL_one fL_two fL_base iL_params fL_paramOver dL_paramOver nL_params fL_paramUnder dL_paramUnder nL_pu gL_over_x32 gL_under_x32 fL_bound iL_nameAt iL_startAt iL_steps jL_scaleOver_108 jL_scaleUnder_108 ++ (WF hF aF kF dF_tree nF_tree fF_tree ++ (WT hT aT kT fT_tape dT_tape nT_tape iT_length iT_fault_108 iT_place_108 iT_kind iT_at iT_number jT_name iT_next ++ (WM hM aM kM iM_stands iM_variables iM_rows iM_goals iM_differents iM_cases fM_from fM_to fM_whole fM_ways iM_plainRows fM_plainRow fM_kept_108 fM_goalOver fM_goalUnder fM_goalMax fM_different)))) H := hP
          have hD : va_D A (WL hL aL kL hT hM (.ref dF_tree) iL_names gL_key fL_kind fL_one fL_two fL_base iL_params fL_paramOver dL_paramOver nL_params fL_paramUnder dL_paramUnder nL_pu gL_over_x32 gL_under_x32 fL_bound iL_nameAt iL_startAt iL_steps jL_scaleOver_108 jL_scaleUnder_108 ++ (WF hF aF kF dF_tree nF_tree fF_tree ++ (WT hT aT kT fT_tape dT_tape nT_tape iT_length iT_fault_108 iT_place_108 iT_kind iT_at iT_number jT_name iT_next ++ (WM hM aM kM iM_stands iM_variables iM_rows iM_goals iM_differents iM_cases fM_from fM_to fM_whole fM_ways iM_plainRows fM_plainRow fM_kept_108 fM_goalOver fM_goalUnder fM_goalMax fM_different)))) := hD
          have hPc : va_P (dC, dI) vwCl (WM hM aM kM iM_stands iM_variables iM_rows iM_goals iM_differents iM_cases fM_from fM_to fM_whole fM_ways iM_plainRows fM_plainRow fM_kept_108 fM_goalOver fM_goalUnder fM_goalMax fM_different) _ := hP.sub [14, 15, 16, 17, 18, 19, 20, 21, 22, 23, 24] rfl
          have hDc : va_D _ (WM hM aM kM iM_stands iM_variables iM_rows iM_goals iM_differents iM_cases fM_from fM_to fM_whole fM_ways iM_plainRows fM_plainRow fM_kept_108 fM_goalOver fM_goalUnder fM_goalMax fM_different) := hD.sub [14, 15, 16, 17, 18, 19, 20, 21, 22, 23, 24] (by decide) rfl
          have hKc : va_K (dC, dI) vwCl (tM kM) _ := hK.sub [12, 13, 14, 15, 16, 17, 18, 19, 20, 21] rfl
          have hFc := va_free (wc := WM hM aM kM iM_stands iM_variables iM_rows iM_goals iM_differents iM_cases fM_from fM_to fM_whole fM_ways iM_plainRows fM_plainRow fM_kept_108 fM_goalOver fM_goalUnder fM_goalMax fM_different) hD hS hA [14, 15, 16, 17, 18, 19, 20, 21, 22, 23, 24] rfl
          refine va_callv (va_runV (As := [.int p1, .int p2, .int (iI (-r108.toInt)), .int r112]) (rest := []) ⟨hx, hb, hml, hown, hts⟩ (m_X1_keepRight l dC dI hM aM kM iM_stands iM_variables iM_rows iM_goals iM_differents iM_cases fM_from fM_to fM_whole fM_ways iM_plainRows fM_plainRow fM_kept_108 fM_goalOver fM_goalUnder fM_goalMax fM_different p1 p2 (iI (-r108.toInt)) r112 (b_iM_stands) (b_iM_variables) (b_iM_rows) (b_iM_goals) (b_iM_differents) (b_iM_cases) b_fM_ways (b_iM_plainRows) b_fM_plainRow (by first | with_reducible assumption | omega | assumption) (b_p1) (b_p2) H.size) (cwV 4 hts gwsMX10_keepWay_5 rfl rfl rfl hd_yX1_keepRight_RX1 (by decide +kernel)) (fz_pre (va_recv hK hP (ci := 1) (q0 := 14) rfl rfl) hPc hKc hDc) rfl rfl hl.1 rfl (lv_room (Nat.le_of_ble_eq_true rfl)) dX10_keepWay_135 (by decide +kernel)) hS (fun q _ h => hFc q h) hFc (fun fM_kept_113 t9_ H locs ht hvm hw9 hB9 hz1 hk1 hS => ?_)
          clear hw9
          obtain ⟨hP, hD⟩ := va_join (wr := [(hL 0, .inr (10, [.ref (hT 0), .ref (hM 0), (.ref dF_tree), .int iL_names, .ref (aL 0), .ref (aL 1), .ref (aL 2), .ref (aL 3), .ref (aL 4), .int iL_params, .ref dL_paramOver, .ref dL_paramUnder, .ref (aL 7), .ref (aL 8), .ref (aL 9), .int iL_nameAt, .int iL_startAt, .int iL_steps, .long jL_scaleOver_108, .long jL_scaleUnder_108])), (aL 0, .inl (kL 0, 40, .inr (.inl gL_key))), (aL 1, .inl (kL 1, 40, .inl fL_kind)), (aL 2, .inl (kL 2, 40, .inl fL_one)), (aL 3, .inl (kL 3, 40, .inl fL_two)), (aL 4, .inl (kL 4, 40, .inl fL_base)), (dL_paramOver, .inl (kL 5, nL_params, .inl fL_paramOver)), (dL_paramUnder, .inl (kL 6, nL_pu, .inl fL_paramUnder)), (aL 7, .inl (kL 7, 360, .inr (.inl gL_over_x32))), (aL 8, .inl (kL 8, 360, .inr (.inl gL_under_x32))), (aL 9, .inl (kL 9, 64, .inl fL_bound)), (dF_tree, .inl (kF 0, nF_tree, .inl fF_tree)), (hT 0, .inr (9, [.ref dT_tape, .int iT_length, .int iT_fault_108, .int iT_place_108, .int iT_kind, .int iT_at, .int iT_number, .long jT_name, .int iT_next])), (dT_tape, .inl (kT 0, nT_tape, .inl fT_tape))]) (w1 := WM hM aM kM iM_stands iM_variables iM_rows iM_goals iM_differents iM_cases fM_from fM_to fM_whole fM_ways iM_plainRows fM_plainRow fM_kept_113 fM_goalOver fM_goalUnder fM_goalMax fM_different) hP hD [14, 15, 16, 17, 18, 19, 20, 21, 22, 23, 24] [0, 1, 2, 3, 4, 5, 6, 7, 8, 9, 10, 11, 12, 13] rfl rfl (by decide) (by decide) hk1 hFc (fz_P ht hB9.1) hB9.2
          have hP : va_P (dC, dI) vwCl (WL hL aL kL hT hM (.ref dF_tree) iL_names gL_key fL_kind fL_one fL_two fL_base iL_params fL_paramOver dL_paramOver nL_params fL_paramUnder dL_paramUnder nL_pu gL_over_x32 gL_under_x32 fL_bound iL_nameAt iL_startAt iL_steps jL_scaleOver_108 jL_scaleUnder_108 ++ (WF hF aF kF dF_tree nF_tree fF_tree ++ (WT hT aT kT fT_tape dT_tape nT_tape iT_length iT_fault_108 iT_place_108 iT_kind iT_at iT_number jT_name iT_next ++ (WM hM aM kM iM_stands iM_variables iM_rows iM_goals iM_differents iM_cases fM_from fM_to fM_whole fM_ways iM_plainRows fM_plainRow fM_kept_113 fM_goalOver fM_goalUnder fM_goalMax fM_different)))) H := hP.sub [0, 1, 2, 3, 4, 5, 6, 7, 8, 9, 10, 11, 12, 13, 14, 15, 16, 17, 18, 19, 20, 21, 22, 23, 24] rfl
          have hD : va_D A (WL hL aL kL hT hM (.ref dF_tree) iL_names gL_key fL_kind fL_one fL_two fL_base iL_params fL_paramOver dL_paramOver nL_params fL_paramUnder dL_paramUnder nL_pu gL_over_x32 gL_under_x32 fL_bound iL_nameAt iL_startAt iL_steps jL_scaleOver_108 jL_scaleUnder_108 ++ (WF hF aF kF dF_tree nF_tree fF_tree ++ (WT hT aT kT fT_tape dT_tape nT_tape iT_length iT_fault_108 iT_place_108 iT_kind iT_at iT_number jT_name iT_next ++ (WM hM aM kM iM_stands iM_variables iM_rows iM_goals iM_differents iM_cases fM_from fM_to fM_whole fM_ways iM_plainRows fM_plainRow fM_kept_113 fM_goalOver fM_goalUnder fM_goalMax fM_different)))) := hD.sub [0, 1, 2, 3, 4, 5, 6, 7, 8, 9, 10, 11, 12, 13, 14, 15, 16, 17, 18, 19, 20, 21, 22, 23, 24] (by decide) rfl
          refine vx_ret ?_
          refine W.known (fun hz9 _ => ?_)
          refine W.widen (k := 1) (n := 6) (by decide +kernel) (by decide +kernel) ?_
          exact W.vret hx hb hr (fun t9_ ht hW => ⟨⟨(gL_over_x32, gL_under_x32, jL_scaleOver_108, jL_scaleUnder_108, iT_fault_108, iT_place_108, fM_kept_113), rfl, trivial, by rw [ht]; exact hP, hD, by rw [ht]; first | done | exact Nat.le_antisymm hz9 hS.1⟩, hS.F ht⟩) hS.2.2 dX10_keepWay_138
        · have t_68 : ¬ l5_x59.toInt > iM_variables.toInt := toI_ngt c_68 rfl rfl
          refine lv_aload_n hx hb dX10_keepWay_71 rfl (lv_at hl 2 rfl) ?_
          refine lv_iload_n hx hb dX10_keepWay_72 rfl (lv_at hl 3 rfl) ?_
          refine lv_iload_n hx hb dX10_keepWay_73 rfl (lv_at hl 4 rfl) ?_
          refine lv_iload hx hb dX10_keepWay_74 (lv_at hl 0 rfl) ?_
          refine lv_iload hx hb dX10_keepWay_76 (lv_at hl 1 rfl) ?_
          refine W.known (fun hz0 _ => ?_)
          have hPc : va_P (dC, dI) vwCl (WL hL aL kL hT hM (.ref dF_tree) iL_names gL_key fL_kind fL_one fL_two fL_base iL_params fL_paramOver dL_paramOver nL_params fL_paramUnder dL_paramUnder nL_pu gL_over_x32 gL_under_x32 fL_bound iL_nameAt iL_startAt iL_steps jL_scaleOver_x59 jL_scaleUnder_x59 ++ (WT hT aT kT fT_tape dT_tape nT_tape iT_length iT_fault_x59 iT_place_x59 iT_kind iT_at iT_number jT_name iT_next ++ (WM hM aM kM iM_stands iM_variables iM_rows iM_goals iM_differents iM_cases fM_from fM_to fM_whole fM_ways iM_plainRows fM_plainRow fM_kept_x59 fM_goalOver fM_goalUnder fM_goalMax fM_different))) _ := hP.sub [0, 1, 2, 3, 4, 5, 6, 7, 8, 9, 10, 12, 13, 14, 15, 16, 17, 18, 19, 20, 21, 22, 23, 24] rfl
          have hDc : va_D _ (WL hL aL kL hT hM (.ref dF_tree) iL_names gL_key fL_kind fL_one fL_two fL_base iL_params fL_paramOver dL_paramOver nL_params fL_paramUnder dL_paramUnder nL_pu gL_over_x32 gL_under_x32 fL_bound iL_nameAt iL_startAt iL_steps jL_scaleOver_x59 jL_scaleUnder_x59 ++ (WT hT aT kT fT_tape dT_tape nT_tape iT_length iT_fault_x59 iT_place_x59 iT_kind iT_at iT_number jT_name iT_next ++ (WM hM aM kM iM_stands iM_variables iM_rows iM_goals iM_differents iM_cases fM_from fM_to fM_whole fM_ways iM_plainRows fM_plainRow fM_kept_x59 fM_goalOver fM_goalUnder fM_goalMax fM_different))) := hD.sub [0, 1, 2, 3, 4, 5, 6, 7, 8, 9, 10, 12, 13, 14, 15, 16, 17, 18, 19, 20, 21, 22, 23, 24] (by decide) rfl
          have hKc : va_K (dC, dI) vwCl (tL kL ++ (tT kT ++ (tM kM))) _ := hK.sub [0, 1, 2, 3, 4, 5, 6, 7, 8, 9, 11, 12, 13, 14, 15, 16, 17, 18, 19, 20, 21] rfl
          have hFc := va_free (wc := WL hL aL kL hT hM (.ref dF_tree) iL_names gL_key fL_kind fL_one fL_two fL_base iL_params fL_paramOver dL_paramOver nL_params fL_paramUnder dL_paramUnder nL_pu gL_over_x32 gL_under_x32 fL_bound iL_nameAt iL_startAt iL_steps jL_scaleOver_x59 jL_scaleUnder_x59 ++ (WT hT aT kT fT_tape dT_tape nT_tape iT_length iT_fault_x59 iT_place_x59 iT_kind iT_at iT_number jT_name iT_next ++ (WM hM aM kM iM_stands iM_variables iM_rows iM_goals iM_differents iM_cases fM_from fM_to fM_whole fM_ways iM_plainRows fM_plainRow fM_kept_x59 fM_goalOver fM_goalUnder fM_goalMax fM_different))) hD hS hA [0, 1, 2, 3, 4, 5, 6, 7, 8, 9, 10, 12, 13, 14, 15, 16, 17, 18, 19, 20, 21, 22, 23, 24] rfl
          refine vx_calli (vx_runV (As := [.int p1, .int p2, .int l5_x59, .int v2]) (rest := []) ⟨hx, hb, hml, hown, hts⟩ (m_X10_scaled l hst dC dI hL aL kL hT hM (.ref dF_tree) iL_names gL_key fL_kind fL_one fL_two fL_base iL_params fL_paramOver dL_paramOver nL_params fL_paramUnder dL_paramUnder nL_pu gL_over_x32 gL_under_x32 fL_bound iL_nameAt iL_startAt iL_steps jL_scaleOver_x59 jL_scaleUnder_x59 aT kT fT_tape dT_tape nT_tape iT_length iT_fault_x59 iT_place_x59 iT_kind iT_at iT_number jT_name iT_next aM kM iM_stands iM_variables iM_rows iM_goals iM_differents iM_cases fM_from fM_to fM_whole fM_ways iM_plainRows fM_plainRow fM_kept_x59 fM_goalOver fM_goalUnder fM_goalMax fM_different p1 p2 l5_x59 v2 (b_iL_names) b_fL_kind b_fL_two b_fL_base (b_iL_params) (by first | exact b_nL_params | with_reducible assumption | exact ⟨by omega, by omega⟩ | assumption) (by first | with_reducible assumption | omega | (rw [iI_t (by omega) (by omega)]; omega) | assumption) (by first | with_reducible assumption | omega | (rw [iI_t (by omega) (by omega)]; omega) | assumption) (by first | with_reducible assumption | omega | (rw [iI_t (by omega) (by omega)]; omega) | assumption) b_fT_tape (by first | exact b_nT_tape | with_reducible assumption | exact ⟨by omega, by omega⟩ | assumption) (b_iT_length) (b_iT_at) (b_iT_number) (b_iT_next) (by first | with_reducible assumption | omega | assumption) (b_iM_stands) (b_iM_variables) (b_iM_rows) (b_iM_goals) (b_iM_differents) (b_iM_cases) b_fM_ways (b_iM_plainRows) b_fM_plainRow (by first | with_reducible assumption | omega | assumption) (b_p1) (b_p2) (by first | exact b_l5_x59 | with_reducible assumption | exact ⟨by omega, by omega⟩ | assumption) H.size) (cwV 4 hts gwsMX10_keepWay_2 rfl rfl rfl hd_yX10_scaled_RX10 (by decide +kernel)) (fz_preE (va_recv hK hP (ci := 10) (q0 := 0) rfl rfl) hPc hKc hDc (fun a U g mk qE => qE.call) (fun U hU9 hW => by rw [hU9]; exact (((hE : CE A s s.heap).kept hS.2.1).narrow (fun q h => hFc q h)).warm hW)) rfl rfl hl.1 rfl (lv_room (Nat.le_of_ble_eq_true rfl)) dX10_keepWay_78 (by decide +kernel)) hS (fun q _ h => hFc q h) hFc (fun q _ h => hFc q h) (fun E ce q9 u t9_ H locs ht hvm hw9 hB9 hz1 hk1 hS hc1 hc2 hc3 => ?_) (fun r114 u t9_ H1 locs ht hvm hw9 hB9 hz1 hk1 hS => ?_)
          · revert u hw9 hB9
            refine fz_p5 ?_
            intro jL_scaleOver_114 jL_scaleUnder_114 iT_fault_114 iT_place_114 fM_kept_114 hw9 hB9
            try dsimp only at hw9 hB9
            revert hB9
            refine fz_a2 ?_
            intro hEx hB9
            clear hw9
            obtain ⟨hP, hD⟩ := va_join (wr := [(dF_tree, .inl (kF 0, nF_tree, .inl fF_tree))]) (w1 := WL hL aL kL hT hM (.ref dF_tree) iL_names gL_key fL_kind fL_one fL_two fL_base iL_params fL_paramOver dL_paramOver nL_params fL_paramUnder dL_paramUnder nL_pu gL_over_x32 gL_under_x32 fL_bound iL_nameAt iL_startAt iL_steps jL_scaleOver_114 jL_scaleUnder_114 ++ (WT hT aT kT fT_tape dT_tape nT_tape iT_length iT_fault_114 iT_place_114 iT_kind iT_at iT_number jT_name iT_next ++ (WM hM aM kM iM_stands iM_variables iM_rows iM_goals iM_differents iM_cases fM_from fM_to fM_whole fM_ways iM_plainRows fM_plainRow fM_kept_114 fM_goalOver fM_goalUnder fM_goalMax fM_different))) hP hD [0, 1, 2, 3, 4, 5, 6, 7, 8, 9, 10, 12, 13, 14, 15, 16, 17, 18, 19, 20, 21, 22, 23, 24] [11] rfl rfl (by decide) (by decide) hk1 hFc (fz_P ht hB9.1) hB9.2
            have hP : va_P (dC, dI) vwCl (WL hL aL kL hT hM (.ref dF_tree) iL_names gL_key fL_kind fL_one fL_two fL_base iL_params fL_paramOver dL_paramOver nL_params fL_paramUnder dL_paramUnder nL_pu gL_over_x32 gL_under_x32 fL_bound iL_nameAt iL_startAt iL_steps jL_scaleOver_114 jL_scaleUnder_114 ++ (WF hF aF kF dF_tree nF_tree fF_tree ++ (WT hT aT kT fT_tape dT_tape nT_tape iT_length iT_fault_114 iT_place_114 iT_kind iT_at iT_number jT_name iT_next ++ (WM hM aM kM iM_stands iM_variables iM_rows iM_goals iM_differents iM_cases fM_from fM_to fM_whole fM_ways iM_plainRows fM_plainRow fM_kept_114 fM_goalOver fM_goalUnder fM_goalMax fM_different)))) H := hP.sub [1, 2, 3, 4, 5, 6, 7, 8, 9, 10, 11, 0, 12, 13, 14, 15, 16, 17, 18, 19, 20, 21, 22, 23, 24] rfl
            have hD : va_D A (WL hL aL kL hT hM (.ref dF_tree) iL_names gL_key fL_kind fL_one fL_two fL_base iL_params fL_paramOver dL_paramOver nL_params fL_paramUnder dL_paramUnder nL_pu gL_over_x32 gL_under_x32 fL_bound iL_nameAt iL_startAt iL_steps jL_scaleOver_114 jL_scaleUnder_114 ++ (WF hF aF kF dF_tree nF_tree fF_tree ++ (WT hT aT kT fT_tape dT_tape nT_tape iT_length iT_fault_114 iT_place_114 iT_kind iT_at iT_number jT_name iT_next ++ (WM hM aM kM iM_stands iM_variables iM_rows iM_goals iM_differents iM_cases fM_from fM_to fM_whole fM_ways iM_plainRows fM_plainRow fM_kept_114 fM_goalOver fM_goalUnder fM_goalMax fM_different)))) := hD.sub [1, 2, 3, 4, 5, 6, 7, 8, 9, 10, 11, 0, 12, 13, 14, 15, 16, 17, 18, 19, 20, 21, 22, 23, 24] (by decide) rfl
            exact vx_out (fun x hx9 => (htab x hx9).elim) hlocks hc1 hc2 hc3 (fun t9_ ht hvm => ⟨(gL_over_x32, gL_under_x32, jL_scaleOver_114, jL_scaleUnder_114, iT_fault_114, iT_place_114, fM_kept_114), trivial, ⟨(by have h9 := hEx; exact h9), by rw [ht]; exact hP, hD⟩, hS.F ht⟩) hS.2.2 (by decide +kernel) (by decide +kernel)
          revert u hw9 hB9
          refine fz_p5 ?_
          intro jL_scaleOver_114 jL_scaleUnder_114 iT_fault_114 iT_place_114 fM_kept_114 hw9 hB9
          try dsimp only at hw9 hB9
          clear hw9
          revert hB9
          refine fz_a3 ?_
          intro hP1 hD1 hz8
          rw [ht] at hP1 hz8
          have hz9 : H1.size ≤ s.heap.size + 0 := by rw [hz8]; exact hz0
          refine W.tight (cells2 := 0) (slots2 := 0) hz9 (nS_0 hz9) ?_
          clear hz8 hz9
          obtain ⟨hP, hD⟩ := va_join (wr := [(dF_tree, .inl (kF 0, nF_tree, .inl fF_tree))]) (w1 := WL hL aL kL hT hM (.ref dF_tree) iL_names gL_key fL_kind fL_one fL_two fL_base iL_params fL_paramOver dL_paramOver nL_params fL_paramUnder dL_paramUnder nL_pu gL_over_x32 gL_under_x32 fL_bound iL_nameAt iL_startAt iL_steps jL_scaleOver_114 jL_scaleUnder_114 ++ (WT hT aT kT fT_tape dT_tape nT_tape iT_length iT_fault_114 iT_place_114 iT_kind iT_at iT_number jT_name iT_next ++ (WM hM aM kM iM_stands iM_variables iM_rows iM_goals iM_differents iM_cases fM_from fM_to fM_whole fM_ways iM_plainRows fM_plainRow fM_kept_114 fM_goalOver fM_goalUnder fM_goalMax fM_different))) hP hD [0, 1, 2, 3, 4, 5, 6, 7, 8, 9, 10, 12, 13, 14, 15, 16, 17, 18, 19, 20, 21, 22, 23, 24] [11] rfl rfl (by decide) (by decide) hk1 hFc hP1 hD1
          have hP : va_P (dC, dI) vwCl (WL hL aL kL hT hM (.ref dF_tree) iL_names gL_key fL_kind fL_one fL_two fL_base iL_params fL_paramOver dL_paramOver nL_params fL_paramUnder dL_paramUnder nL_pu gL_over_x32 gL_under_x32 fL_bound iL_nameAt iL_startAt iL_steps jL_scaleOver_114 jL_scaleUnder_114 ++ (WF hF aF kF dF_tree nF_tree fF_tree ++ (WT hT aT kT fT_tape dT_tape nT_tape iT_length iT_fault_114 iT_place_114 iT_kind iT_at iT_number jT_name iT_next ++ (WM hM aM kM iM_stands iM_variables iM_rows iM_goals iM_differents iM_cases fM_from fM_to fM_whole fM_ways iM_plainRows fM_plainRow fM_kept_114 fM_goalOver fM_goalUnder fM_goalMax fM_different)))) _ := hP.sub [1, 2, 3, 4, 5, 6, 7, 8, 9, 10, 11, 0, 12, 13, 14, 15, 16, 17, 18, 19, 20, 21, 22, 23, 24] rfl
          have hD : va_D _ (WL hL aL kL hT hM (.ref dF_tree) iL_names gL_key fL_kind fL_one fL_two fL_base iL_params fL_paramOver dL_paramOver nL_params fL_paramUnder dL_paramUnder nL_pu gL_over_x32 gL_under_x32 fL_bound iL_nameAt iL_startAt iL_steps jL_scaleOver_114 jL_scaleUnder_114 ++ (WF hF aF kF dF_tree nF_tree fF_tree ++ (WT hT aT kT fT_tape dT_tape nT_tape iT_length iT_fault_114 iT_place_114 iT_kind iT_at iT_number jT_name iT_next ++ (WM hM aM kM iM_stands iM_variables iM_rows iM_goals iM_differents iM_cases fM_from fM_to fM_whole fM_ways iM_plainRows fM_plainRow fM_kept_114 fM_goalOver fM_goalUnder fM_goalMax fM_different)))) := hD.sub [1, 2, 3, 4, 5, 6, 7, 8, 9, 10, 11, 0, 12, 13, 14, 15, 16, 17, 18, 19, 20, 21, 22, 23, 24] (by decide) rfl
          generalize H1 = H at hP hS ⊢
          have hP : va_P (dC, dI) vwCl (WL hL aL kL hT hM (.ref dF_tree) iL_names gL_key fL_kind fL_one fL_two fL_base iL_params fL_paramOver dL_paramOver nL_params fL_paramUnder dL_paramUnder nL_pu gL_over_x32 gL_under_x32 fL_bound iL_nameAt iL_startAt iL_steps jL_scaleOver_114 jL_scaleUnder_114 ++ (WF hF aF kF dF_tree nF_tree fF_tree ++ (WT hT aT kT fT_tape dT_tape nT_tape iT_length iT_fault_114 iT_place_114 iT_kind iT_at iT_number jT_name iT_next ++ (WM hM aM kM iM_stands iM_variables iM_rows iM_goals iM_differents iM_cases fM_from fM_to fM_whole fM_ways iM_plainRows fM_plainRow fM_kept_114 fM_goalOver fM_goalUnder fM_goalMax fM_different)))) H := hP
          have hD : va_D A (WL hL aL kL hT hM (.ref dF_tree) iL_names gL_key fL_kind fL_one fL_two fL_base iL_params fL_paramOver dL_paramOver nL_params fL_paramUnder dL_paramUnder nL_pu gL_over_x32 gL_under_x32 fL_bound iL_nameAt iL_startAt iL_steps jL_scaleOver_114 jL_scaleUnder_114 ++ (WF hF aF kF dF_tree nF_tree fF_tree ++ (WT hT aT kT fT_tape dT_tape nT_tape iT_length iT_fault_114 iT_place_114 iT_kind iT_at iT_number jT_name iT_next ++ (WM hM aM kM iM_stands iM_variables iM_rows iM_goals iM_differents iM_cases fM_from fM_to fM_whole fM_ways iM_plainRows fM_plainRow fM_kept_114 fM_goalOver fM_goalUnder fM_goalMax fM_different)))) := hD
          refine lv_istore hx hb dX10_keepWay_81 hl (by decide) rfl (fun ls (hl : lv_has ls _ ([(6, .int r114), (5, .int l5_x59), (4, .int v2), (0, .ref (hL 0)), (1, .int p1), (2, .int p2), (3, .int p3)])) => ?_)
          refine lv_aload_n hx hb dX10_keepWay_83 rfl (lv_at hl 3 rfl) ?_
          refine va_get (D := (dC, dI)) (ci := 10) (v := .ref (hM 0)) (C := RX10) (T := TX10) (N := 20) hx hb hts iwsMX10_keepWay_in10 hown hK hP 0 rfl rfl 1 (by decide) (hts (.fieldLink RX10 51 "OptimaWorks$Worker" "model" "LOptimaWorks$Model;") (by decide +kernel)) (fun _ h9 => h9) rfl dX10_keepWay_84 ?_
          refine lv_iload_n hx hb dX10_keepWay_87 rfl (lv_at hl 4 rfl) ?_
          refine lv_iload_n hx hb dX10_keepWay_88 rfl (lv_at hl 5 rfl) ?_
          refine lv_iload hx hb dX10_keepWay_89 (lv_at hl 1 rfl) ?_
          refine lv_iconst (v := 1) hx hb dX10_keepWay_91 (by decide) ?_
          refine lv_isub hx hb dX10_keepWay_92 ?_
          refine lv_topi (fun y115 hy115 => ?_)
          obtain rfl : (iI (l5_x59.toInt - 1)) = y115 := (hy115.trans (iI_sub2 (iI_of _) (by decide : (1 : Int32) = iI 1))).symm
          refine lv_iload hx hb dX10_keepWay_93 (lv_at hl 0 rfl) ?_
          have hPc : va_P (dC, dI) vwCl (WM hM aM kM iM_stands iM_variables iM_rows iM_goals iM_differents iM_cases fM_from fM_to fM_whole fM_ways iM_plainRows fM_plainRow fM_kept_114 fM_goalOver fM_goalUnder fM_goalMax fM_different) _ := hP.sub [14, 15, 16, 17, 18, 19, 20, 21, 22, 23, 24] rfl
          have hDc : va_D _ (WM hM aM kM iM_stands iM_variables iM_rows iM_goals iM_differents iM_cases fM_from fM_to fM_whole fM_ways iM_plainRows fM_plainRow fM_kept_114 fM_goalOver fM_goalUnder fM_goalMax fM_different) := hD.sub [14, 15, 16, 17, 18, 19, 20, 21, 22, 23, 24] (by decide) rfl
          have hKc : va_K (dC, dI) vwCl (tM kM) _ := hK.sub [12, 13, 14, 15, 16, 17, 18, 19, 20, 21] rfl
          have hFc := va_free (wc := WM hM aM kM iM_stands iM_variables iM_rows iM_goals iM_differents iM_cases fM_from fM_to fM_whole fM_ways iM_plainRows fM_plainRow fM_kept_114 fM_goalOver fM_goalUnder fM_goalMax fM_different) hD hS hA [14, 15, 16, 17, 18, 19, 20, 21, 22, 23, 24] rfl
          refine va_callv (va_runV (As := [.int p1, .int p2, .int (iI (l5_x59.toInt - 1)), .int r114]) (rest := []) ⟨hx, hb, hml, hown, hts⟩ (m_X1_keepNumber l dC dI hM aM kM iM_stands iM_variables iM_rows iM_goals iM_differents iM_cases fM_from fM_to fM_whole fM_ways iM_plainRows fM_plainRow fM_kept_114 fM_goalOver fM_goalUnder fM_goalMax fM_different p1 p2 (iI (l5_x59.toInt - 1)) r114 (b_iM_stands) (b_iM_variables) (b_iM_rows) (b_iM_goals) (b_iM_differents) (b_iM_cases) b_fM_ways (b_iM_plainRows) b_fM_plainRow (by first | with_reducible assumption | omega | assumption) (b_p1) (b_p2) (iI_rng (Int.le_trans (by decide) (Int.sub_le_sub (b_l5_x59.1) (Int.le_refl _))) (Int.le_trans (Int.sub_le_sub (b_l5_x59.2) (Int.le_refl _)) (by decide)) (by decide) (by decide)) H.size) (cwV 4 hts gwsMX10_keepWay_3 rfl rfl rfl hd_yX1_keepNumber_RX1 (by decide +kernel)) (fz_pre (va_recv hK hP (ci := 1) (q0 := 14) rfl rfl) hPc hKc hDc) rfl rfl hl.1 rfl (lv_room (Nat.le_of_ble_eq_true rfl)) dX10_keepWay_95 (by decide +kernel)) hS (fun q _ h => hFc q h) hFc (fun fM_kept_116 t9_ H locs ht hvm hw9 hB9 hz1 hk1 hS => ?_)
          clear hw9
          obtain ⟨hP, hD⟩ := va_join (wr := [(hL 0, .inr (10, [.ref (hT 0), .ref (hM 0), (.ref dF_tree), .int iL_names, .ref (aL 0), .ref (aL 1), .ref (aL 2), .ref (aL 3), .ref (aL 4), .int iL_params, .ref dL_paramOver, .ref dL_paramUnder, .ref (aL 7), .ref (aL 8), .ref (aL 9), .int iL_nameAt, .int iL_startAt, .int iL_steps, .long jL_scaleOver_114, .long jL_scaleUnder_114])), (aL 0, .inl (kL 0, 40, .inr (.inl gL_key))), (aL 1, .inl (kL 1, 40, .inl fL_kind)), (aL 2, .inl (kL 2, 40, .inl fL_one)), (aL 3, .inl (kL 3, 40, .inl fL_two)), (aL 4, .inl (kL 4, 40, .inl fL_base)), (dL_paramOver, .inl (kL 5, nL_params, .inl fL_paramOver)), (dL_paramUnder, .inl (kL 6, nL_pu, .inl fL_paramUnder)), (aL 7, .inl (kL 7, 360, .inr (.inl gL_over_x32))), (aL 8, .inl (kL 8, 360, .inr (.inl gL_under_x32))), (aL 9, .inl (kL 9, 64, .inl fL_bound)), (dF_tree, .inl (kF 0, nF_tree, .inl fF_tree)), (hT 0, .inr (9, [.ref dT_tape, .int iT_length, .int iT_fault_114, .int iT_place_114, .int iT_kind, .int iT_at, .int iT_number, .long jT_name, .int iT_next])), (dT_tape, .inl (kT 0, nT_tape, .inl fT_tape))]) (w1 := WM hM aM kM iM_stands iM_variables iM_rows iM_goals iM_differents iM_cases fM_from fM_to fM_whole fM_ways iM_plainRows fM_plainRow fM_kept_116 fM_goalOver fM_goalUnder fM_goalMax fM_different) hP hD [14, 15, 16, 17, 18, 19, 20, 21, 22, 23, 24] [0, 1, 2, 3, 4, 5, 6, 7, 8, 9, 10, 11, 12, 13] rfl rfl (by decide) (by decide) hk1 hFc (fz_P ht hB9.1) hB9.2
          have hP : va_P (dC, dI) vwCl (WL hL aL kL hT hM (.ref dF_tree) iL_names gL_key fL_kind fL_one fL_two fL_base iL_params fL_paramOver dL_paramOver nL_params fL_paramUnder dL_paramUnder nL_pu gL_over_x32 gL_under_x32 fL_bound iL_nameAt iL_startAt iL_steps jL_scaleOver_114 jL_scaleUnder_114 ++ (WF hF aF kF dF_tree nF_tree fF_tree ++ (WT hT aT kT fT_tape dT_tape nT_tape iT_length iT_fault_114 iT_place_114 iT_kind iT_at iT_number jT_name iT_next ++ (WM hM aM kM iM_stands iM_variables iM_rows iM_goals iM_differents iM_cases fM_from fM_to fM_whole fM_ways iM_plainRows fM_plainRow fM_kept_116 fM_goalOver fM_goalUnder fM_goalMax fM_different)))) H := hP.sub [0, 1, 2, 3, 4, 5, 6, 7, 8, 9, 10, 11, 12, 13, 14, 15, 16, 17, 18, 19, 20, 21, 22, 23, 24] rfl
          have hD : va_D A (WL hL aL kL hT hM (.ref dF_tree) iL_names gL_key fL_kind fL_one fL_two fL_base iL_params fL_paramOver dL_paramOver nL_params fL_paramUnder dL_paramUnder nL_pu gL_over_x32 gL_under_x32 fL_bound iL_nameAt iL_startAt iL_steps jL_scaleOver_114 jL_scaleUnder_114 ++ (WF hF aF kF dF_tree nF_tree fF_tree ++ (WT hT aT kT fT_tape dT_tape nT_tape iT_length iT_fault_114 iT_place_114 iT_kind iT_at iT_number jT_name iT_next ++ (WM hM aM kM iM_stands iM_variables iM_rows iM_goals iM_differents iM_cases fM_from fM_to fM_whole fM_ways iM_plainRows fM_plainRow fM_kept_116 fM_goalOver fM_goalUnder fM_goalMax fM_different)))) := hD.sub [0, 1, 2, 3, 4, 5, 6, 7, 8, 9, 10, 11, 12, 13, 14, 15, 16, 17, 18, 19, 20, 21, 22, 23, 24] (by decide) rfl
          refine lv_iinc (v := (iI (l5_x59.toInt + 1))) hx hb dX10_keepWay_98 hl (k := 1) rfl (iI_add2 (iI_of _) (by decide : (1 : Int32) = iI 1)) (by decide) rfl (fun ls (hl : lv_has ls _ ([(5, .int (iI (l5_x59.toInt + 1))), (6, .int r114), (4, .int v2), (0, .ref (hL 0)), (1, .int p1), (2, .int p2), (3, .int p3)])) => ?_)
          refine lv_goto (tgt := 59) hx hb dX10_keepWay_101 (by decide) ?_
          have hl : lv_has _ _ ([(5, .int (iI (l5_x59.toInt + 1))), (4, .int v2), (0, .ref (hL 0)), (1, .int p1), (2, .int p2), (3, .int p3)]) := lv_sub hl [0, 2, 3, 4, 5, 6] rfl
          exact ihx59 jL_scaleOver_114 jL_scaleUnder_114 iT_fault_114 iT_place_114 fM_kept_116 (iI (l5_x59.toInt + 1)) _ _ _ (iI_rng (Int.le_trans (by decide) (Int.add_le_add (b_l5_x59.1) (Int.le_refl _))) (by omega) (by decide) (by decide)) (by have e9 : ((iI (l5_x59.toInt + 1))).toInt = (l5_x59.toInt + 1) := (iI_t (Int.le_trans (by decide) (Int.add_le_add (b_l5_x59.1) (Int.le_refl _))) (Int.le_trans (Int.add_le_add (b_l5_x59.2) (Int.le_refl _)) (by decide))); omega) hP hD hS hl
    · have t_41 : ¬ l5_x32.toInt > iM_variables.toInt := toI_ngt c_41 rfl rfl
      refine lv_aload_n hx hb dX10_keepWay_44 rfl (lv_at hl 2 rfl) ?_
      refine lv_iload hx hb dX10_keepWay_45 (lv_at hl 0 rfl) ?_
      have hPc : va_P (dC, dI) vwCl (WL hL aL kL hT hM (.ref dF_tree) iL_names gL_key fL_kind fL_one fL_two fL_base iL_params fL_paramOver dL_paramOver nL_params fL_paramUnder dL_paramUnder nL_pu gL_over_x32 gL_under_x32 fL_bound iL_nameAt iL_startAt iL_steps 0 1) _ := hP.sub [0, 1, 2, 3, 4, 5, 6, 7, 8, 9, 10] rfl
      have hDc : va_D _ (WL hL aL kL hT hM (.ref dF_tree) iL_names gL_key fL_kind fL_one fL_two fL_base iL_params fL_paramOver dL_paramOver nL_params fL_paramUnder dL_paramUnder nL_pu gL_over_x32 gL_under_x32 fL_bound iL_nameAt iL_startAt iL_steps 0 1) := hD.sub [0, 1, 2, 3, 4, 5, 6, 7, 8, 9, 10] (by decide) rfl
      have hKc : va_K (dC, dI) vwCl (tL kL) _ := hK.sub [0, 1, 2, 3, 4, 5, 6, 7, 8, 9] rfl
      have hFc := va_free (wc := WL hL aL kL hT hM (.ref dF_tree) iL_names gL_key fL_kind fL_one fL_two fL_base iL_params fL_paramOver dL_paramOver nL_params fL_paramUnder dL_paramUnder nL_pu gL_over_x32 gL_under_x32 fL_bound iL_nameAt iL_startAt iL_steps 0 1) hD hS hA [0, 1, 2, 3, 4, 5, 6, 7, 8, 9, 10] rfl
      refine va_callv (va_runV (As := [.int l5_x32]) (rest := []) ⟨hx, hb, hml, hown, hts⟩ (m_X10_leaveDifference l dC dI hL aL kL hT hM (.ref dF_tree) iL_names gL_key fL_kind fL_one fL_two fL_base iL_params fL_paramOver dL_paramOver nL_params fL_paramUnder dL_paramUnder nL_pu gL_over_x32 gL_under_x32 fL_bound iL_nameAt iL_startAt iL_steps 0 1 l5_x32 (b_iL_names) b_fL_kind b_fL_two b_fL_base (b_iL_params) (by first | exact b_nL_params | with_reducible assumption | exact ⟨by omega, by omega⟩ | assumption) (by first | with_reducible assumption | omega | (rw [iI_t (by omega) (by omega)]; omega) | assumption) (by first | with_reducible assumption | omega | (rw [iI_t (by omega) (by omega)]; omega) | assumption) (by first | with_reducible assumption | omega | (rw [iI_t (by omega) (by omega)]; omega) | assumption) (by first | exact b_l5_x32 | with_reducible assumption | exact ⟨by omega, by omega⟩ | assumption) H.size) (cwV 1 hts gwsMX10_keepWay_1 rfl rfl rfl hd_yX10_leaveDifference_RX10 (by decide +kernel)) (fz_pre (va_recv hK hP (ci := 10) (q0 := 0) rfl rfl) hPc hKc hDc) rfl rfl hl.1 rfl (lv_room (Nat.le_of_ble_eq_true rfl)) dX10_keepWay_47 (by decide +kernel)) hS (fun q _ h => hFc q h) hFc (fun u t9_ H locs ht hvm hw9 hB9 hz1 hk1 hS => ?_)
      revert u hw9 hB9
      refine fz_p2 ?_
      intro gL_over_117 gL_under_117 hw9 hB9
      try dsimp only at hw9 hB9
      clear hw9
      obtain ⟨hP, hD⟩ := va_join (wr := [(dF_tree, .inl (kF 0, nF_tree, .inl fF_tree)), (hT 0, .inr (9, [.ref dT_tape, .int iT_length, .int iT_fault, .int iT_place, .int iT_kind, .int iT_at, .int iT_number, .long jT_name, .int iT_next])), (dT_tape, .inl (kT 0, nT_tape, .inl fT_tape)), (hM 0, .inr (1, [.int iM_stands, .int iM_variables, .int iM_rows, .int iM_goals, .int iM_differents, .int iM_cases, .ref (aM 0), .ref (aM 1), .ref (aM 2), .ref (aM 3), .int iM_plainRows, .ref (aM 4), .ref (aM 5), .ref (aM 6), .ref (aM 7), .ref (aM 8), .ref (aM 9)])), (aM 0, .inl (kM 0, 8, .inl fM_from)), (aM 1, .inl (kM 1, 8, .inl fM_to)), (aM 2, .inl (kM 2, 8, .inl fM_whole)), (aM 3, .inl (kM 3, 12, .inl fM_ways)), (aM 4, .inl (kM 4, 12, .inl fM_plainRow)), (aM 5, .inl (kM 5, 360, .inl fM_kept_3)), (aM 6, .inl (kM 6, 27, .inl fM_goalOver)), (aM 7, .inl (kM 7, 27, .inl fM_goalUnder)), (aM 8, .inl (kM 8, 3, .inl fM_goalMax)), (aM 9, .inl (kM 9, 8, .inl fM_different))]) (w1 := WL hL aL kL hT hM (.ref dF_tree) iL_names gL_key fL_kind fL_one fL_two fL_base iL_params fL_paramOver dL_paramOver nL_params fL_paramUnder dL_paramUnder nL_pu gL_over_117 gL_under_117 fL_bound iL_nameAt iL_startAt iL_steps 0 1) hP hD [0, 1, 2, 3, 4, 5, 6, 7, 8, 9, 10] [11, 12, 13, 14, 15, 16, 17, 18, 19, 20, 21, 22, 23, 24] rfl rfl (by decide) (by decide) hk1 hFc (fz_P ht hB9.1) hB9.2
      have hP : va_P (dC, dI) vwCl (WL hL aL kL hT hM (.ref dF_tree) iL_names gL_key fL_kind fL_one fL_two fL_base iL_params fL_paramOver dL_paramOver nL_params fL_paramUnder dL_paramUnder nL_pu gL_over_117 gL_under_117 fL_bound iL_nameAt iL_startAt iL_steps 0 1 ++ (WF hF aF kF dF_tree nF_tree fF_tree ++ (WT hT aT kT fT_tape dT_tape nT_tape iT_length iT_fault iT_place iT_kind iT_at iT_number jT_name iT_next ++ (WM hM aM kM iM_stands iM_variables iM_rows iM_goals iM_differents iM_cases fM_from fM_to fM_whole fM_ways iM_plainRows fM_plainRow fM_kept_3 fM_goalOver fM_goalUnder fM_goalMax fM_different)))) H := hP.sub [14, 15, 16, 17, 18, 19, 20, 21, 22, 23, 24, 0, 1, 2, 3, 4, 5, 6, 7, 8, 9, 10, 11, 12, 13] rfl
      have hD : va_D A (WL hL aL kL hT hM (.ref dF_tree) iL_names gL_key fL_kind fL_one fL_two fL_base iL_params fL_paramOver dL_paramOver nL_params fL_paramUnder dL_paramUnder nL_pu gL_over_117 gL_under_117 fL_bound iL_nameAt iL_startAt iL_steps 0 1 ++ (WF hF aF kF dF_tree nF_tree fF_tree ++ (WT hT aT kT fT_tape dT_tape nT_tape iT_length iT_fault iT_place iT_kind iT_at iT_number jT_name iT_next ++ (WM hM aM kM iM_stands iM_variables iM_rows iM_goals iM_differents iM_cases fM_from fM_to fM_whole fM_ways iM_plainRows fM_plainRow fM_kept_3 fM_goalOver fM_goalUnder fM_goalMax fM_different)))) := hD.sub [14, 15, 16, 17, 18, 19, 20, 21, 22, 23, 24, 0, 1, 2, 3, 4, 5, 6, 7, 8, 9, 10, 11, 12, 13] (by decide) rfl
      refine lv_iinc (v := (iI (l5_x32.toInt + 1))) hx hb dX10_keepWay_50 hl (k := 0) rfl (iI_add2 (iI_of _) (by decide : (1 : Int32) = iI 1)) (by decide) rfl (fun ls (hl : lv_has ls _ ([(5, .int (iI (l5_x32.toInt + 1))), (4, .int v2), (0, .ref (hL 0)), (1, .int p1), (2, .int p2), (3, .int p3)])) => ?_)
      refine lv_goto (tgt := 32) hx hb dX10_keepWay_53 (by decide) ?_
      have hl : lv_has _ _ ([(5, .int (iI (l5_x32.toInt + 1))), (4, .int v2), (0, .ref (hL 0)), (1, .int p1), (2, .int p2), (3, .int p3)]) := lv_sub hl [0, 1, 2, 3, 4, 5] rfl
      exact ihx32 gL_over_117 gL_under_117 (iI (l5_x32.toInt + 1)) _ _ _ (iI_rng (Int.le_trans (by decide) (Int.add_le_add (b_l5_x32.1) (Int.le_refl _))) (by omega) (by decide) (by decide)) (by have e9 : ((iI (l5_x32.toInt + 1))).toInt = (l5_x32.toInt + 1) := (iI_t (Int.le_trans (by decide) (Int.add_le_add (b_l5_x32.1) (Int.le_refl _))) (Int.le_trans (Int.add_le_add (b_l5_x32.2) (Int.le_refl _)) (by decide))); omega) hP hD hS hl
theorem dX10_farEnd_0 : decode cX10_farEnd 0 = .ok (.aload_n 0, 1) := dk_42 (by decide +kernel)
theorem dX10_farEnd_1 : decode cX10_farEnd 1 = .ok (.getfield 39, 3) := dk_180 (by decide +kernel)
theorem dX10_farEnd_4 : decode cX10_farEnd 4 = .ok (.iconst 0, 1) := dk_3 (by decide +kernel)
theorem dX10_farEnd_5 : decode cX10_farEnd 5 = .ok (.laload, 1) := dk_47 (by decide +kernel)
theorem dX10_farEnd_6 : decode cX10_farEnd 6 = .ok (.lconst 1, 1) := dk_10 (by decide +kernel)
theorem dX10_farEnd_7 : decode cX10_farEnd 7 = .ok (.lcmp, 1) := dk_148 (by decide +kernel)
theorem dX10_farEnd_8 : decode cX10_farEnd 8 = .ok (.ifCond .ne 29, 3) := dk_154 (by decide +kernel)
theorem dX10_farEnd_11 : decode cX10_farEnd 11 = .ok (.aload_n 0, 1) := dk_42 (by decide +kernel)
theorem dX10_farEnd_12 : decode cX10_farEnd 12 = .ok (.getfield 36, 3) := dk_180 (by decide +kernel)
theorem dX10_farEnd_15 : decode cX10_farEnd 15 = .ok (.iconst 0, 1) := dk_3 (by decide +kernel)
theorem dX10_farEnd_16 : decode cX10_farEnd 16 = .ok (.laload, 1) := dk_47 (by decide +kernel)
theorem dX10_farEnd_17 : decode cX10_farEnd 17 = .ok (.ldc2_w 110, 3) := dk_20 (by decide +kernel)
theorem dX10_farEnd_20 : decode cX10_farEnd 20 = .ok (.lcmp, 1) := dk_148 (by decide +kernel)
theorem dX10_farEnd_21 : decode cX10_farEnd 21 = .ok (.ifCond .lt 16, 3) := dk_155 (by decide +kernel)
theorem dX10_farEnd_24 : decode cX10_farEnd 24 = .ok (.aload_n 0, 1) := dk_42 (by decide +kernel)
theorem dX10_farEnd_25 : decode cX10_farEnd 25 = .ok (.getfield 36, 3) := dk_180 (by decide +kernel)
theorem dX10_farEnd_28 : decode cX10_farEnd 28 = .ok (.iconst 0, 1) := dk_3 (by decide +kernel)
theorem dX10_farEnd_29 : decode cX10_farEnd 29 = .ok (.laload, 1) := dk_47 (by decide +kernel)
theorem dX10_farEnd_30 : decode cX10_farEnd 30 = .ok (.ldc2_w 112, 3) := dk_20 (by decide +kernel)
theorem dX10_farEnd_33 : decode cX10_farEnd 33 = .ok (.lcmp, 1) := dk_148 (by decide +kernel)
theorem dX10_farEnd_34 : decode cX10_farEnd 34 = .ok (.ifCond .le 20, 3) := dk_158 (by decide +kernel)
theorem dX10_farEnd_37 : decode cX10_farEnd 37 = .ok (.aload_n 0, 1) := dk_42 (by decide +kernel)
theorem dX10_farEnd_38 : decode cX10_farEnd 38 = .ok (.getfield 47, 3) := dk_180 (by decide +kernel)
theorem dX10_farEnd_41 : decode cX10_farEnd 41 = .ok (.bipush 9, 2) := dk_16 (by decide +kernel)
theorem dX10_farEnd_43 : decode cX10_farEnd 43 = .ok (.aload_n 0, 1) := dk_42 (by decide +kernel)
theorem dX10_farEnd_44 : decode cX10_farEnd 44 = .ok (.getfield 55, 3) := dk_180 (by decide +kernel)
theorem dX10_farEnd_47 : decode cX10_farEnd 47 = .ok (.iload_n 1, 1) := dk_27 (by decide +kernel)
theorem dX10_farEnd_48 : decode cX10_farEnd 48 = .ok (.iconst 1, 1) := dk_4 (by decide +kernel)
theorem dX10_farEnd_49 : decode cX10_farEnd 49 = .ok (.iadd, 1) := dk_96 (by decide +kernel)
theorem dX10_farEnd_50 : decode cX10_farEnd 50 = .ok (.iaload, 1) := dk_46 (by decide +kernel)
theorem dX10_farEnd_51 : decode cX10_farEnd 51 = .ok (.invokevirtual 90, 3) := dk_182 (by decide +kernel)
theorem dX10_farEnd_54 : decode cX10_farEnd 54 = .ok (.aload_n 0, 1) := dk_42 (by decide +kernel)
theorem dX10_farEnd_55 : decode cX10_farEnd 55 = .ok (.getfield 36, 3) := dk_180 (by decide +kernel)
theorem dX10_farEnd_58 : decode cX10_farEnd 58 = .ok (.iconst 0, 1) := dk_3 (by decide +kernel)
theorem dX10_farEnd_59 : decode cX10_farEnd 59 = .ok (.laload, 1) := dk_47 (by decide +kernel)
theorem dX10_farEnd_60 : decode cX10_farEnd 60 = .ok (.l2i, 1) := dk_136 (by decide +kernel)
theorem dX10_farEnd_61 : decode cX10_farEnd 61 = .ok (.ireturn, 1) := dk_172 (by decide +kernel)
def wsMX10_farEnd : List Cond := .code yX10_farEnd cX10_farEnd 2 (some .int) :: ([.fieldLink RX10 39 "OptimaWorks$Worker" "under" "[J", .fieldLink RX10 47 "OptimaWorks$Worker" "words" "LOptimaWorks$Words;", .fieldLink RX10 55 "OptimaWorks$Worker" "tree" "[I", .fieldLink RX10 36 "OptimaWorks$Worker" "over" "[J", .constantLong RX10 110 (-999), .constantLong RX10 112 999] ++ wsX100 ++ (wsV RX10 90 RX9 yX9_fail wsMX9_fail))
theorem iwsMX10_farEnd_in10 : ∀ w ∈ wsX100, w ∈ wsMX10_farEnd := fun _ h => List.mem_cons_of_mem _ (List.mem_append_left _ (List.mem_append_right _ h))
theorem gwsMX10_farEnd_0 : GoodIn wsMX10_farEnd (wsV RX10 90 RX9 yX9_fail wsMX9_fail) := goodIn_sub (fun _ h => List.mem_cons_of_mem _ (List.mem_append_right _ h)) (gdV (by decide +kernel) gdwsMX9_fail)
theorem gdwsMX10_farEnd : wsMX10_farEnd.all goodWord = true := gdC rfl (gdA (gdA (by decide +kernel : ([.fieldLink RX10 39 "OptimaWorks$Worker" "under" "[J", .fieldLink RX10 47 "OptimaWorks$Worker" "words" "LOptimaWorks$Words;", .fieldLink RX10 55 "OptimaWorks$Worker" "tree" "[I", .fieldLink RX10 36 "OptimaWorks$Worker" "over" "[J", .constantLong RX10 110 (-999), .constantLong RX10 112 999] : List Cond).all goodWord = true) gdwsX100) (gdV (by decide +kernel) gdwsMX9_fail))
set_option maxHeartbeats 4000000 in
set_option maxRecDepth 100000 in
/-- an end -/
theorem m_X10_farEnd (l : Launch) (hst : l.stackTraces = false) (dC : Nat → ClassId) (dI : Nat → Nat → Nat) (hL : Nat → Nat) (aL : Nat → Nat) (kL : Nat → ClassId) (hT : Nat → Nat) (hM : Nat → Nat) (iL_names : Int32) (gL_key : Nat → Int64) (fL_kind : Nat → Int32) (fL_one : Nat → Int32) (fL_two : Nat → Int32) (fL_base : Nat → Int32) (iL_params : Int32) (fL_paramOver : Nat → Int32) (dL_paramOver : Nat) (nL_params : Nat) (fL_paramUnder : Nat → Int32) (dL_paramUnder : Nat) (nL_pu : Nat) (gL_over : Nat → Int64) (gL_under : Nat → Int64) (fL_bound : Nat → Int32) (iL_nameAt : Int32) (iL_startAt : Int32) (iL_steps : Int32) (jL_scaleOver : Int64) (jL_scaleUnder : Int64) (hF : Nat → Nat) (aF : Nat → Nat) (kF : Nat → ClassId) (dF_tree : Nat) (nF_tree : Nat) (fF_tree : Nat → Int32) (aT : Nat → Nat) (kT : Nat → ClassId) (fT_tape : Nat → Int32) (dT_tape : Nat) (nT_tape : Nat) (iT_length : Int32) (iT_fault : Int32) (iT_place : Int32) (iT_kind : Int32) (iT_at : Int32) (iT_number : Int32) (jT_name : Int64) (iT_next : Int32) (p1 : Int32) (b_iL_names : 0 ≤ iL_names.toInt ∧ iL_names.toInt ≤ 40) (b_fL_kind : ∀ q : Nat, 0 ≤ (fL_kind q).toInt ∧ (fL_kind q).toInt ≤ 5) (b_fL_two : ∀ q : Nat, (-1) ≤ (fL_two q).toInt ∧ (fL_two q).toInt ≤ 39) (b_fL_base : ∀ q : Nat, 0 ≤ (fL_base q).toInt ∧ (fL_base q).toInt ≤ 2560) (b_iL_params : 0 ≤ iL_params.toInt ∧ iL_params.toInt ≤ 2560) (b_nL_params : 0 ≤ nL_params ∧ nL_params ≤ 2560) (b_nm : NmL iL_names fL_kind fL_one fL_two fL_base nL_params) (b_pm : iL_params.toInt ≤ ((nL_params : Nat) : Int)) (b_pu : nL_pu = nL_params) (b_nF_tree : 7 ≤ nF_tree ∧ nF_tree ≤ 72200) (b_fT_tape : ∀ q : Nat, (-128) ≤ (fT_tape q).toInt ∧ (fT_tape q).toInt ≤ 127) (b_nT_tape : 64 ≤ nT_tape ∧ nT_tape ≤ 2560) (b_iT_length : 0 ≤ iT_length.toInt ∧ iT_length.toInt ≤ 1280) (b_iT_at : 0 ≤ iT_at.toInt ∧ iT_at.toInt ≤ 1282) (b_iT_number : 0 ≤ iT_number.toInt ∧ iT_number.toInt ≤ 999999) (b_iT_next : 0 ≤ iT_next.toInt ∧ iT_next.toInt ≤ 1282) (b_len : iT_length.toInt ≤ ((nT_tape : Nat) : Int)) (hp3 : 7 ≤ p1.toInt ∧ p1.toInt + 7 ≤ ((nF_tree : Nat) : Int)) (sz : Nat) : vx_Met l yX10_farEnd wsMX10_farEnd ({ frames := 7, cells := 1, slots := 6, locals := 103 }) (va_Pc [.ref (hL 0), .int p1] (fun U => U.heap.size = sz ∧ va_P (dC, dI) vwCl (WL hL aL kL hT hM (.ref dF_tree) iL_names gL_key fL_kind fL_one fL_two fL_base iL_params fL_paramOver dL_paramOver nL_params fL_paramUnder dL_paramUnder nL_pu gL_over gL_under fL_bound iL_nameAt iL_startAt iL_steps jL_scaleOver jL_scaleUnder ++ (WF hF aF kF dF_tree nF_tree fF_tree ++ (WT hT aT kT fT_tape dT_tape nT_tape iT_length iT_fault iT_place iT_kind iT_at iT_number jT_name iT_next))) U.heap ∧ va_K (dC, dI) vwCl (tL kL ++ (tF kF ++ (tT kT))) U ∧ va_D (fun _ => True) (WL hL aL kL hT hM (.ref dF_tree) iL_names gL_key fL_kind fL_one fL_two fL_base iL_params fL_paramOver dL_paramOver nL_params fL_paramUnder dL_paramUnder nL_pu gL_over gL_under fL_bound iL_nameAt iL_startAt iL_steps jL_scaleOver jL_scaleUnder ++ (WF hF aF kF dF_tree nF_tree fF_tree ++ (WT hT aT kT fT_tape dT_tape nT_tape iT_length iT_fault iT_place iT_kind iT_at iT_number jT_name iT_next))) ∧ CE (va_A (WL hL aL kL hT hM (.ref dF_tree) iL_names gL_key fL_kind fL_one fL_two fL_base iL_params fL_paramOver dL_paramOver nL_params fL_paramUnder dL_paramUnder nL_pu gL_over gL_under fL_bound iL_nameAt iL_startAt iL_steps jL_scaleOver jL_scaleUnder ++ (WF hF aF kF dF_tree nF_tree fF_tree ++ (WT hT aT kT fT_tape dT_tape nT_tape iT_length iT_fault iT_place iT_kind iT_at iT_number jT_name iT_next))) sz) U U.heap)) (va_Qi (fun (r : Int32) (u : (Int32) × (Int32)) => ((-999) ≤ r.toInt ∧ r.toInt ≤ 999)) (fun (u : (Int32) × (Int32)) t => va_P (dC, dI) vwCl (WL hL aL kL hT hM (.ref dF_tree) iL_names gL_key fL_kind fL_one fL_two fL_base iL_params fL_paramOver dL_paramOver nL_params fL_paramUnder dL_paramUnder nL_pu gL_over gL_under fL_bound iL_nameAt iL_startAt iL_steps jL_scaleOver jL_scaleUnder ++ (WF hF aF kF dF_tree nF_tree fF_tree ++ (WT hT aT kT fT_tape dT_tape nT_tape iT_length (u.1) (u.2) iT_kind iT_at iT_number jT_name iT_next))) t.heap ∧ va_D (va_A (WL hL aL kL hT hM (.ref dF_tree) iL_names gL_key fL_kind fL_one fL_two fL_base iL_params fL_paramOver dL_paramOver nL_params fL_paramUnder dL_paramUnder nL_pu gL_over gL_under fL_bound iL_nameAt iL_startAt iL_steps jL_scaleOver jL_scaleUnder ++ (WF hF aF kF dF_tree nF_tree fF_tree ++ (WT hT aT kT fT_tape dT_tape nT_tape iT_length iT_fault iT_place iT_kind iT_at iT_number jT_name iT_next))) sz) (WL hL aL kL hT hM (.ref dF_tree) iL_names gL_key fL_kind fL_one fL_two fL_base iL_params fL_paramOver dL_paramOver nL_params fL_paramUnder dL_paramUnder nL_pu gL_over gL_under fL_bound iL_nameAt iL_startAt iL_steps jL_scaleOver jL_scaleUnder ++ (WF hF aF kF dF_tree nF_tree fF_tree ++ (WT hT aT kT fT_tape dT_tape nT_tape iT_length (u.1) (u.2) iT_kind iT_at iT_number jT_name iT_next))) ∧ t.heap.size = sz) (va_A (WL hL aL kL hT hM (.ref dF_tree) iL_names gL_key fL_kind fL_one fL_two fL_base iL_params fL_paramOver dL_paramOver nL_params fL_paramUnder dL_paramUnder nL_pu gL_over gL_under fL_bound iL_nameAt iL_startAt iL_steps jL_scaleOver jL_scaleUnder ++ (WF hF aF kF dF_tree nF_tree fF_tree ++ (WT hT aT kT fT_tape dT_tape nT_tape iT_length iT_fault iT_place iT_kind iT_at iT_number jT_name iT_next))) sz)) (vx_X (fun (u : (Int32) × (Int32)) => True) (fun E (u : (Int32) × (Int32)) t => (E = "java/lang/IllegalArgumentException") ∧ va_P (dC, dI) vwCl (WL hL aL kL hT hM (.ref dF_tree) iL_names gL_key fL_kind fL_one fL_two fL_base iL_params fL_paramOver dL_paramOver nL_params fL_paramUnder dL_paramUnder nL_pu gL_over gL_under fL_bound iL_nameAt iL_startAt iL_steps jL_scaleOver jL_scaleUnder ++ (WF hF aF kF dF_tree nF_tree fF_tree ++ (WT hT aT kT fT_tape dT_tape nT_tape iT_length (u.1) (u.2) iT_kind iT_at iT_number jT_name iT_next))) t.heap ∧ va_D (va_A (WL hL aL kL hT hM (.ref dF_tree) iL_names gL_key fL_kind fL_one fL_two fL_base iL_params fL_paramOver dL_paramOver nL_params fL_paramUnder dL_paramUnder nL_pu gL_over gL_under fL_bound iL_nameAt iL_startAt iL_steps jL_scaleOver jL_scaleUnder ++ (WF hF aF kF dF_tree nF_tree fF_tree ++ (WT hT aT kT fT_tape dT_tape nT_tape iT_length iT_fault iT_place iT_kind iT_at iT_number jT_name iT_next))) sz) (WL hL aL kL hT hM (.ref dF_tree) iL_names gL_key fL_kind fL_one fL_two fL_base iL_params fL_paramOver dL_paramOver nL_params fL_paramUnder dL_paramUnder nL_pu gL_over gL_under fL_bound iL_nameAt iL_startAt iL_steps jL_scaleOver jL_scaleUnder ++ (WF hF aF kF dF_tree nF_tree fF_tree ++ (WT hT aT kT fT_tape dT_tape nT_tape iT_length (u.1) (u.2) iT_kind iT_at iT_number jT_name iT_next)))) (va_A (WL hL aL kL hT hM (.ref dF_tree) iL_names gL_key fL_kind fL_one fL_two fL_base iL_params fL_paramOver dL_paramOver nL_params fL_paramUnder dL_paramUnder nL_pu gL_over gL_under fL_bound iL_nameAt iL_startAt iL_steps jL_scaleOver jL_scaleUnder ++ (WF hF aF kF dF_tree nF_tree fF_tree ++ (WT hT aT kT fT_tape dT_tape nT_tape iT_length iT_fault iT_place iT_kind iT_at iT_number jT_name iT_next))) sz)) 1 6 (va_A (WL hL aL kL hT hM (.ref dF_tree) iL_names gL_key fL_kind fL_one fL_two fL_base iL_params fL_paramOver dL_paramOver nL_params fL_paramUnder dL_paramUnder nL_pu gL_over gL_under fL_bound iL_nameAt iL_startAt iL_steps jL_scaleOver jL_scaleUnder ++ (WF hF aF kF dF_tree nF_tree fF_tree ++ (WT hT aT kT fT_tape dT_tape nT_tape iT_length iT_fault iT_place iT_kind iT_at iT_number jT_name iT_next))) sz) := by
  refine vx_ofW (cc := cX10_farEnd) (maxL := 2) (ret := (some .int)) (by decide) rfl ?_
  intro p e s m args below meth c s₁ B hml htab hv
  obtain ⟨rfl, hsz, hP, hK, hD0, hE⟩ := hv
  have hx := B.exec
  have hb := B.bytes
  have hr := B.returns
  have hts := atoms_spec (ws := wsMX10_farEnd) B.pre
  have hown : s.vm.findClass RX10 = some m.cls := findClass_of_methodNamed B.named
  have hlocks := B.notSynchronized
  subst hsz
  have hD := hD0.self (sz := s.heap.size)
  generalize hAe : va_A (WL hL aL kL hT hM (.ref dF_tree) iL_names gL_key fL_kind fL_one fL_two fL_base iL_params fL_paramOver dL_paramOver nL_params fL_paramUnder dL_paramUnder nL_pu gL_over gL_under fL_bound iL_nameAt iL_startAt iL_steps jL_scaleOver jL_scaleUnder ++ (WF hF aF kF dF_tree nF_tree fF_tree ++ (WT hT aT kT fT_tape dT_tape nT_tape iT_length iT_fault iT_place iT_kind iT_at iT_number jT_name iT_next))) s.heap.size = A at hD hE ⊢
  have hA : ∀ q : Nat, s.heap.size ≤ q → A q := fun q h => by rw [← hAe]; exact Or.inr h
  have hS : va_S A s.heap s.heap [] := va_S.rf
  have hl := lv_entry ([.ref (hL 0), .int p1]) (n := 2) (Nat.le_of_ble_eq_true rfl)
  rw [lg_entry_eq]
  generalize (lg_sl ([.ref (hL 0), .int p1]) ++ List.replicate (2 - (lg_sl ([.ref (hL 0), .int p1])).length) Slot.unset).toArray = ls at hl ⊢
  have hl : lv_has ls 2 [(0, .ref (hL 0)), (1, .int p1)] := hl
  refine lv_aload_n hx hb dX10_farEnd_0 rfl (lv_at hl 0 rfl) ?_
  refine va_get (D := (dC, dI)) (ci := 10) (v := .ref (aL 8)) (C := RX10) (T := TX10) (N := 20) hx hb hts iwsMX10_farEnd_in10 hown hK hP 0 rfl rfl 13 (by decide) (hts (.fieldLink RX10 39 "OptimaWorks$Worker" "under" "[J") (by decide +kernel)) (fun _ h9 => h9) rfl dX10_farEnd_1 ?_
  refine lv_iconst (v := 0) hx hb dX10_farEnd_4 (by decide) ?_
  refine va_lald (cA := kL 8) (n := 360) (f := gL_under) hx hb hK hP 9 8 rfl rfl (show ¬ ((0 : Int32) < 0 ∨ 360 ≤ (0 : Int32).toNatClampNeg) by decide) dX10_farEnd_5 ?_
  refine lv_topl (fun v1 hv1 => ?_)
  clear hv1
  refine lv_lconst (v := 1) hx hb dX10_farEnd_6 (by decide) ?_
  refine W.lcmp hx hb dX10_farEnd_7 ?_
  refine lv_if_ne (tgt := 37) hx hb dX10_farEnd_8 (by decide) (fun c_8 => ?_) (fun c_8 => ?_)
  · have t_8 : v1.toInt ≠ 1 := toL_ne c_8 rfl (by decide : (1 : Int64).toInt = 1)
    refine lv_aload_n hx hb dX10_farEnd_37 rfl (lv_at hl 0 rfl) ?_
    refine va_get (D := (dC, dI)) (ci := 10) (v := .ref (hT 0)) (C := RX10) (T := TX10) (N := 20) hx hb hts iwsMX10_farEnd_in10 hown hK hP 0 rfl rfl 0 (by decide) (hts (.fieldLink RX10 47 "OptimaWorks$Worker" "words" "LOptimaWorks$Words;") (by decide +kernel)) (fun _ h9 => h9) rfl dX10_farEnd_38 ?_
    refine lv_bipush (v := 9) hx hb dX10_farEnd_41 (by decide) ?_
    refine lv_aload_n hx hb dX10_farEnd_43 rfl (lv_at hl 0 rfl) ?_
    refine va_get (D := (dC, dI)) (ci := 10) (v := .ref dF_tree) (C := RX10) (T := TX10) (N := 20) hx hb hts iwsMX10_farEnd_in10 hown hK hP 0 rfl rfl 2 (by decide) (hts (.fieldLink RX10 55 "OptimaWorks$Worker" "tree" "[I") (by decide +kernel)) (fun _ h9 => h9) rfl dX10_farEnd_44 ?_
    refine lv_iload_n hx hb dX10_farEnd_47 rfl (lv_at hl 1 rfl) ?_
    refine lv_iconst (v := 1) hx hb dX10_farEnd_48 (by decide) ?_
    refine lv_iadd hx hb dX10_farEnd_49 ?_
    refine lv_topi (fun y13 hy13 => ?_)
    obtain rfl : (iI (p1.toInt + 1)) = y13 := (hy13.trans (iI_add2 (iI_of _) (by decide : (1 : Int32) = iI 1))).symm
    refine va_iald (cA := kF 0) (n := nF_tree) (f := fF_tree) hx hb hK hP 11 10 rfl rfl (vp_iI (by omega) (by omega) (by omega)) dX10_farEnd_50 ?_
    refine lv_topi (fun v14 hv14 => ?_)
    have b_v14 : v14.toInt = twL fF_tree (p1.toInt + 1) := by rw [hv14]; exact tw_i (by omega) (by omega)
    clear hv14
    have hPc : va_P (dC, dI) vwCl (WT hT aT kT fT_tape dT_tape nT_tape iT_length iT_fault iT_place iT_kind iT_at iT_number jT_name iT_next) _ := hP.sub [12, 13] rfl
    have hDc : va_D _ (WT hT aT kT fT_tape dT_tape nT_tape iT_length iT_fault iT_place iT_kind iT_at iT_number jT_name iT_next) := hD.sub [12, 13] (by decide) rfl
    have hKc : va_K (dC, dI) vwCl (tT kT) _ := hK.sub [11] rfl
    have hFc := va_free (wc := WT hT aT kT fT_tape dT_tape nT_tape iT_length iT_fault iT_place iT_kind iT_at iT_number jT_name iT_next) hD hS hA [12, 13] rfl
    refine vx_callv (vx_runV (As := [.int 9, .int v14]) (rest := []) ⟨hx, hb, hml, hown, hts⟩ (m_X9_fail l hst dC dI hT aT kT fT_tape dT_tape nT_tape iT_length iT_fault iT_place iT_kind iT_at iT_number jT_name iT_next 9 v14 b_fT_tape (by first | exact b_nT_tape | with_reducible assumption | exact ⟨by omega, by omega⟩ | assumption) (b_iT_length) (b_iT_at) (b_iT_number) (b_iT_next) (by first | with_reducible assumption | omega | assumption) s.heap.size) (cwV 2 hts gwsMX10_farEnd_0 rfl rfl rfl hd_yX9_fail_RX9 (by decide +kernel)) (fz_preE (va_recv hK hP (ci := 9) (q0 := 12) rfl rfl) hPc hKc hDc (fun a U g mk qE => qE.call) (fun U hU9 hW => by rw [hU9]; exact (((hE : CE A s s.heap).kept hS.2.1).narrow (fun q h => hFc q h)).warm hW)) rfl rfl hl.1 rfl (lv_room (Nat.le_of_ble_eq_true rfl)) dX10_farEnd_51 (by decide +kernel)) hS (fun q _ h => hFc q h) hFc (fun q _ h => hFc q h) (fun E ce q9 u t9_ H locs ht hvm hw9 hB9 hz1 hk1 hS hc1 hc2 hc3 => ?_) (fun u t9_ H1 locs ht hvm hw9 hB9 hz1 hk1 hS => ?_)
    · revert u hw9 hB9
      refine fz_p2 ?_
      intro iT_fault_15 iT_place_15 hw9 hB9
      try dsimp only at hw9 hB9
      revert hB9
      refine fz_a2 ?_
      intro hEx hB9
      clear hw9
      obtain ⟨hP, hD⟩ := va_join (wr := [(hL 0, .inr (10, [.ref (hT 0), .ref (hM 0), (.ref dF_tree), .int iL_names, .ref (aL 0), .ref (aL 1), .ref (aL 2), .ref (aL 3), .ref (aL 4), .int iL_params, .ref dL_paramOver, .ref dL_paramUnder, .ref (aL 7), .ref (aL 8), .ref (aL 9), .int iL_nameAt, .int iL_startAt, .int iL_steps, .long jL_scaleOver, .long jL_scaleUnder])), (aL 0, .inl (kL 0, 40, .inr (.inl gL_key))), (aL 1, .inl (kL 1, 40, .inl fL_kind)), (aL 2, .inl (kL 2, 40, .inl fL_one)), (aL 3, .inl (kL 3, 40, .inl fL_two)), (aL 4, .inl (kL 4, 40, .inl fL_base)), (dL_paramOver, .inl (kL 5, nL_params, .inl fL_paramOver)), (dL_paramUnder, .inl (kL 6, nL_pu, .inl fL_paramUnder)), (aL 7, .inl (kL 7, 360, .inr (.inl gL_over))), (aL 8, .inl (kL 8, 360, .inr (.inl gL_under))), (aL 9, .inl (kL 9, 64, .inl fL_bound)), (dF_tree, .inl (kF 0, nF_tree, .inl fF_tree))]) (w1 := WT hT aT kT fT_tape dT_tape nT_tape iT_length iT_fault_15 iT_place_15 iT_kind iT_at iT_number jT_name iT_next) hP hD [12, 13] [0, 1, 2, 3, 4, 5, 6, 7, 8, 9, 10, 11] rfl rfl (by decide) (by decide) hk1 hFc (fz_P ht hB9.1) hB9.2
      have hP : va_P (dC, dI) vwCl (WL hL aL kL hT hM (.ref dF_tree) iL_names gL_key fL_kind fL_one fL_two fL_base iL_params fL_paramOver dL_paramOver nL_params fL_paramUnder dL_paramUnder nL_pu gL_over gL_under fL_bound iL_nameAt iL_startAt iL_steps jL_scaleOver jL_scaleUnder ++ (WF hF aF kF dF_tree nF_tree fF_tree ++ (WT hT aT kT fT_tape dT_tape nT_tape iT_length iT_fault_15 iT_place_15 iT_kind iT_at iT_number jT_name iT_next))) H := hP.sub [0, 1, 2, 3, 4, 5, 6, 7, 8, 9, 10, 11, 12, 13] rfl
      have hD : va_D A (WL hL aL kL hT hM (.ref dF_tree) iL_names gL_key fL_kind fL_one fL_two fL_base iL_params fL_paramOver dL_paramOver nL_params fL_paramUnder dL_paramUnder nL_pu gL_over gL_under fL_bound iL_nameAt iL_startAt iL_steps jL_scaleOver jL_scaleUnder ++ (WF hF aF kF dF_tree nF_tree fF_tree ++ (WT hT aT kT fT_tape dT_tape nT_tape iT_length iT_fault_15 iT_place_15 iT_kind iT_at iT_number jT_name iT_next))) := hD.sub [0, 1, 2, 3, 4, 5, 6, 7, 8, 9, 10, 11, 12, 13] (by decide) rfl
      exact vx_out (fun x hx9 => (htab x hx9).elim) hlocks hc1 hc2 hc3 (fun t9_ ht hvm => ⟨(iT_fault_15, iT_place_15), trivial, ⟨(by have h9 := hEx; exact h9), by rw [ht]; exact hP, hD⟩, hS.F ht⟩) hS.2.2 (by decide +kernel) (by decide +kernel)
    exact False.elim hw9
  · have t_8 : v1.toInt = 1 := toL_nne c_8 rfl (by decide : (1 : Int64).toInt = 1)
    refine lv_aload_n hx hb dX10_farEnd_11 rfl (lv_at hl 0 rfl) ?_
    refine va_get (D := (dC, dI)) (ci := 10) (v := .ref (aL 7)) (C := RX10) (T := TX10) (N := 20) hx hb hts iwsMX10_farEnd_in10 hown hK hP 0 rfl rfl 12 (by decide) (hts (.fieldLink RX10 36 "OptimaWorks$Worker" "over" "[J") (by decide +kernel)) (fun _ h9 => h9) rfl dX10_farEnd_12 ?_
    refine lv_iconst (v := 0) hx hb dX10_farEnd_15 (by decide) ?_
    refine va_lald (cA := kL 7) (n := 360) (f := gL_over) hx hb hK hP 8 7 rfl rfl (show ¬ ((0 : Int32) < 0 ∨ 360 ≤ (0 : Int32).toNatClampNeg) by decide) dX10_farEnd_16 ?_
    refine lv_topl (fun v16 hv16 => ?_)
    have b_v16 : v16 = gL_over (0 : Int32).toNatClampNeg := hv16
    clear hv16
    refine lv_ldc2 (v := (-999)) hx hb hown (hts (.constantLong RX10 110 (-999)) (by decide +kernel)) dX10_farEnd_17 ?_
    refine W.lcmp hx hb dX10_farEnd_20 ?_
    refine lv_if_lt (tgt := 37) hx hb dX10_farEnd_21 (by decide) (fun c_21 => ?_) (fun c_21 => ?_)
    · have t_21 : v16.toInt < (-999) := toL_lt c_21 rfl (by decide : ((-999) : Int64).toInt = (-999))
      refine lv_aload_n hx hb dX10_farEnd_37 rfl (lv_at hl 0 rfl) ?_
      refine va_get (D := (dC, dI)) (ci := 10) (v := .ref (hT 0)) (C := RX10) (T := TX10) (N := 20) hx hb hts iwsMX10_farEnd_in10 hown hK hP 0 rfl rfl 0 (by decide) (hts (.fieldLink RX10 47 "OptimaWorks$Worker" "words" "LOptimaWorks$Words;") (by decide +kernel)) (fun _ h9 => h9) rfl dX10_farEnd_38 ?_
      refine lv_bipush (v := 9) hx hb dX10_farEnd_41 (by decide) ?_
      refine lv_aload_n hx hb dX10_farEnd_43 rfl (lv_at hl 0 rfl) ?_
      refine va_get (D := (dC, dI)) (ci := 10) (v := .ref dF_tree) (C := RX10) (T := TX10) (N := 20) hx hb hts iwsMX10_farEnd_in10 hown hK hP 0 rfl rfl 2 (by decide) (hts (.fieldLink RX10 55 "OptimaWorks$Worker" "tree" "[I") (by decide +kernel)) (fun _ h9 => h9) rfl dX10_farEnd_44 ?_
      refine lv_iload_n hx hb dX10_farEnd_47 rfl (lv_at hl 1 rfl) ?_
      refine lv_iconst (v := 1) hx hb dX10_farEnd_48 (by decide) ?_
      refine lv_iadd hx hb dX10_farEnd_49 ?_
      refine lv_topi (fun y24 hy24 => ?_)
      obtain rfl : (iI (p1.toInt + 1)) = y24 := (hy24.trans (iI_add2 (iI_of _) (by decide : (1 : Int32) = iI 1))).symm
      refine va_iald (cA := kF 0) (n := nF_tree) (f := fF_tree) hx hb hK hP 11 10 rfl rfl (vp_iI (by omega) (by omega) (by omega)) dX10_farEnd_50 ?_
      refine lv_topi (fun v25 hv25 => ?_)
      have b_v25 : v25.toInt = twL fF_tree (p1.toInt + 1) := by rw [hv25]; exact tw_i (by omega) (by omega)
      clear hv25
      have hPc : va_P (dC, dI) vwCl (WT hT aT kT fT_tape dT_tape nT_tape iT_length iT_fault iT_place iT_kind iT_at iT_number jT_name iT_next) _ := hP.sub [12, 13] rfl
      have hDc : va_D _ (WT hT aT kT fT_tape dT_tape nT_tape iT_length iT_fault iT_place iT_kind iT_at iT_number jT_name iT_next) := hD.sub [12, 13] (by decide) rfl
      have hKc : va_K (dC, dI) vwCl (tT kT) _ := hK.sub [11] rfl
      have hFc := va_free (wc := WT hT aT kT fT_tape dT_tape nT_tape iT_length iT_fault iT_place iT_kind iT_at iT_number jT_name iT_next) hD hS hA [12, 13] rfl
      refine vx_callv (vx_runV (As := [.int 9, .int v25]) (rest := []) ⟨hx, hb, hml, hown, hts⟩ (m_X9_fail l hst dC dI hT aT kT fT_tape dT_tape nT_tape iT_length iT_fault iT_place iT_kind iT_at iT_number jT_name iT_next 9 v25 b_fT_tape (by first | exact b_nT_tape | with_reducible assumption | exact ⟨by omega, by omega⟩ | assumption) (b_iT_length) (b_iT_at) (b_iT_number) (b_iT_next) (by first | with_reducible assumption | omega | assumption) s.heap.size) (cwV 2 hts gwsMX10_farEnd_0 rfl rfl rfl hd_yX9_fail_RX9 (by decide +kernel)) (fz_preE (va_recv hK hP (ci := 9) (q0 := 12) rfl rfl) hPc hKc hDc (fun a U g mk qE => qE.call) (fun U hU9 hW => by rw [hU9]; exact (((hE : CE A s s.heap).kept hS.2.1).narrow (fun q h => hFc q h)).warm hW)) rfl rfl hl.1 rfl (lv_room (Nat.le_of_ble_eq_true rfl)) dX10_farEnd_51 (by decide +kernel)) hS (fun q _ h => hFc q h) hFc (fun q _ h => hFc q h) (fun E ce q9 u t9_ H locs ht hvm hw9 hB9 hz1 hk1 hS hc1 hc2 hc3 => ?_) (fun u t9_ H1 locs ht hvm hw9 hB9 hz1 hk1 hS => ?_)
      · revert u hw9 hB9
        refine fz_p2 ?_
        intro iT_fault_26 iT_place_26 hw9 hB9
        try dsimp only at hw9 hB9
        revert hB9
        refine fz_a2 ?_
        intro hEx hB9
        clear hw9
        obtain ⟨hP, hD⟩ := va_join (wr := [(hL 0, .inr (10, [.ref (hT 0), .ref (hM 0), (.ref dF_tree), .int iL_names, .ref (aL 0), .ref (aL 1), .ref (aL 2), .ref (aL 3), .ref (aL 4), .int iL_params, .ref dL_paramOver, .ref dL_paramUnder, .ref (aL 7), .ref (aL 8), .ref (aL 9), .int iL_nameAt, .int iL_startAt, .int iL_steps, .long jL_scaleOver, .long jL_scaleUnder])), (aL 0, .inl (kL 0, 40, .inr (.inl gL_key))), (aL 1, .inl (kL 1, 40, .inl fL_kind)), (aL 2, .inl (kL 2, 40, .inl fL_one)), (aL 3, .inl (kL 3, 40, .inl fL_two)), (aL 4, .inl (kL 4, 40, .inl fL_base)), (dL_paramOver, .inl (kL 5, nL_params, .inl fL_paramOver)), (dL_paramUnder, .inl (kL 6, nL_pu, .inl fL_paramUnder)), (aL 7, .inl (kL 7, 360, .inr (.inl gL_over))), (aL 8, .inl (kL 8, 360, .inr (.inl gL_under))), (aL 9, .inl (kL 9, 64, .inl fL_bound)), (dF_tree, .inl (kF 0, nF_tree, .inl fF_tree))]) (w1 := WT hT aT kT fT_tape dT_tape nT_tape iT_length iT_fault_26 iT_place_26 iT_kind iT_at iT_number jT_name iT_next) hP hD [12, 13] [0, 1, 2, 3, 4, 5, 6, 7, 8, 9, 10, 11] rfl rfl (by decide) (by decide) hk1 hFc (fz_P ht hB9.1) hB9.2
        have hP : va_P (dC, dI) vwCl (WL hL aL kL hT hM (.ref dF_tree) iL_names gL_key fL_kind fL_one fL_two fL_base iL_params fL_paramOver dL_paramOver nL_params fL_paramUnder dL_paramUnder nL_pu gL_over gL_under fL_bound iL_nameAt iL_startAt iL_steps jL_scaleOver jL_scaleUnder ++ (WF hF aF kF dF_tree nF_tree fF_tree ++ (WT hT aT kT fT_tape dT_tape nT_tape iT_length iT_fault_26 iT_place_26 iT_kind iT_at iT_number jT_name iT_next))) H := hP.sub [0, 1, 2, 3, 4, 5, 6, 7, 8, 9, 10, 11, 12, 13] rfl
        have hD : va_D A (WL hL aL kL hT hM (.ref dF_tree) iL_names gL_key fL_kind fL_one fL_two fL_base iL_params fL_paramOver dL_paramOver nL_params fL_paramUnder dL_paramUnder nL_pu gL_over gL_under fL_bound iL_nameAt iL_startAt iL_steps jL_scaleOver jL_scaleUnder ++ (WF hF aF kF dF_tree nF_tree fF_tree ++ (WT hT aT kT fT_tape dT_tape nT_tape iT_length iT_fault_26 iT_place_26 iT_kind iT_at iT_number jT_name iT_next))) := hD.sub [0, 1, 2, 3, 4, 5, 6, 7, 8, 9, 10, 11, 12, 13] (by decide) rfl
        exact vx_out (fun x hx9 => (htab x hx9).elim) hlocks hc1 hc2 hc3 (fun t9_ ht hvm => ⟨(iT_fault_26, iT_place_26), trivial, ⟨(by have h9 := hEx; exact h9), by rw [ht]; exact hP, hD⟩, hS.F ht⟩) hS.2.2 (by decide +kernel) (by decide +kernel)
      exact False.elim hw9
    · have t_21 : ¬ v16.toInt < (-999) := toL_nlt c_21 rfl (by decide : ((-999) : Int64).toInt = (-999))
      refine lv_aload_n hx hb dX10_farEnd_24 rfl (lv_at hl 0 rfl) ?_
      refine va_get (D := (dC, dI)) (ci := 10) (v := .ref (aL 7)) (C := RX10) (T := TX10) (N := 20) hx hb hts iwsMX10_farEnd_in10 hown hK hP 0 rfl rfl 12 (by decide) (hts (.fieldLink RX10 36 "OptimaWorks$Worker" "over" "[J") (by decide +kernel)) (fun _ h9 => h9) rfl dX10_farEnd_25 ?_
      refine lv_iconst (v := 0) hx hb dX10_farEnd_28 (by decide) ?_
      refine va_lald (cA := kL 7) (n := 360) (f := gL_over) hx hb hK hP 8 7 rfl rfl (show ¬ ((0 : Int32) < 0 ∨ 360 ≤ (0 : Int32).toNatClampNeg) by decide) dX10_farEnd_29 ?_
      refine lv_topl (fun v27 hv27 => ?_)
      have b_v27 : v27 = gL_over (0 : Int32).toNatClampNeg := hv27
      have b1_v27 : v27.toInt = v16.toInt := by rw [hv27]; exact (congrArg Int64.toInt b_v16).symm
      clear hv27
      refine lv_ldc2 (v := 999) hx hb hown (hts (.constantLong RX10 112 999) (by decide +kernel)) dX10_farEnd_30 ?_
      refine W.lcmp hx hb dX10_farEnd_33 ?_
      refine lv_if_le (tgt := 54) hx hb dX10_farEnd_34 (by decide) (fun c_34 => ?_) (fun c_34 => ?_)
      · have t_34 : v27.toInt ≤ 999 := toL_le c_34 rfl (by decide : (999 : Int64).toInt = 999)
        refine lv_aload_n hx hb dX10_farEnd_54 rfl (lv_at hl 0 rfl) ?_
        refine va_get (D := (dC, dI)) (ci := 10) (v := .ref (aL 7)) (C := RX10) (T := TX10) (N := 20) hx hb hts iwsMX10_farEnd_in10 hown hK hP 0 rfl rfl 12 (by decide) (hts (.fieldLink RX10 36 "OptimaWorks$Worker" "over" "[J") (by decide +kernel)) (fun _ h9 => h9) rfl dX10_farEnd_55 ?_
        refine lv_iconst (v := 0) hx hb dX10_farEnd_58 (by decide) ?_
        refine va_lald (cA := kL 7) (n := 360) (f := gL_over) hx hb hK hP 8 7 rfl rfl (show ¬ ((0 : Int32) < 0 ∨ 360 ≤ (0 : Int32).toNatClampNeg) by decide) dX10_farEnd_59 ?_
        refine lv_topl (fun v31 hv31 => ?_)
        have b_v31 : v31 = gL_over (0 : Int32).toNatClampNeg := hv31
        have b1_v31 : v31.toInt = v27.toInt := by rw [hv31]; exact (congrArg Int64.toInt b_v27).symm
        clear hv31
        refine lv_l2i hx hb dX10_farEnd_60 rfl ?_
        refine lv_topi (fun v32 hv32 => ?_)
        have b_v32 : v32.toInt = v31.toInt := by rw [hv32]; exact l2i_in (by omega) (by omega)
        clear hv32
        refine vx_ret ?_
        refine W.known (fun hz9 _ => ?_)
        refine W.widen (k := 1) (n := 6) (by decide +kernel) (by decide +kernel) ?_
        exact W.iret (v := v32) hx hb hr (fun t9_ ht hW => ⟨⟨v32, (iT_fault, iT_place), rfl, (by first | exact b_v32 | with_reducible assumption | exact ⟨by omega, by omega⟩ | assumption), by rw [ht]; exact hP, hD, by rw [ht]; first | done | exact Nat.le_antisymm hz9 hS.1⟩, hS.F ht⟩) hS.2.2 dX10_farEnd_61
      · have t_34 : ¬ v27.toInt ≤ 999 := toL_nle c_34 rfl (by decide : (999 : Int64).toInt = 999)
        refine lv_aload_n hx hb dX10_farEnd_37 rfl (lv_at hl 0 rfl) ?_
        refine va_get (D := (dC, dI)) (ci := 10) (v := .ref (hT 0)) (C := RX10) (T := TX10) (N := 20) hx hb hts iwsMX10_farEnd_in10 hown hK hP 0 rfl rfl 0 (by decide) (hts (.fieldLink RX10 47 "OptimaWorks$Worker" "words" "LOptimaWorks$Words;") (by decide +kernel)) (fun _ h9 => h9) rfl dX10_farEnd_38 ?_
        refine lv_bipush (v := 9) hx hb dX10_farEnd_41 (by decide) ?_
        refine lv_aload_n hx hb dX10_farEnd_43 rfl (lv_at hl 0 rfl) ?_
        refine va_get (D := (dC, dI)) (ci := 10) (v := .ref dF_tree) (C := RX10) (T := TX10) (N := 20) hx hb hts iwsMX10_farEnd_in10 hown hK hP 0 rfl rfl 2 (by decide) (hts (.fieldLink RX10 55 "OptimaWorks$Worker" "tree" "[I") (by decide +kernel)) (fun _ h9 => h9) rfl dX10_farEnd_44 ?_
        refine lv_iload_n hx hb dX10_farEnd_47 rfl (lv_at hl 1 rfl) ?_
        refine lv_iconst (v := 1) hx hb dX10_farEnd_48 (by decide) ?_
        refine lv_iadd hx hb dX10_farEnd_49 ?_
        refine lv_topi (fun y33 hy33 => ?_)
        obtain rfl : (iI (p1.toInt + 1)) = y33 := (hy33.trans (iI_add2 (iI_of _) (by decide : (1 : Int32) = iI 1))).symm
        refine va_iald (cA := kF 0) (n := nF_tree) (f := fF_tree) hx hb hK hP 11 10 rfl rfl (vp_iI (by omega) (by omega) (by omega)) dX10_farEnd_50 ?_
        refine lv_topi (fun v34 hv34 => ?_)
        have b_v34 : v34.toInt = twL fF_tree (p1.toInt + 1) := by rw [hv34]; exact tw_i (by omega) (by omega)
        clear hv34
        have hPc : va_P (dC, dI) vwCl (WT hT aT kT fT_tape dT_tape nT_tape iT_length iT_fault iT_place iT_kind iT_at iT_number jT_name iT_next) _ := hP.sub [12, 13] rfl
        have hDc : va_D _ (WT hT aT kT fT_tape dT_tape nT_tape iT_length iT_fault iT_place iT_kind iT_at iT_number jT_name iT_next) := hD.sub [12, 13] (by decide) rfl
        have hKc : va_K (dC, dI) vwCl (tT kT) _ := hK.sub [11] rfl
        have hFc := va_free (wc := WT hT aT kT fT_tape dT_tape nT_tape iT_length iT_fault iT_place iT_kind iT_at iT_number jT_name iT_next) hD hS hA [12, 13] rfl
        refine vx_callv (vx_runV (As := [.int 9, .int v34]) (rest := []) ⟨hx, hb, hml, hown, hts⟩ (m_X9_fail l hst dC dI hT aT kT fT_tape dT_tape nT_tape iT_length iT_fault iT_place iT_kind iT_at iT_number jT_name iT_next 9 v34 b_fT_tape (by first | exact b_nT_tape | with_reducible assumption | exact ⟨by omega, by omega⟩ | assumption) (b_iT_length) (b_iT_at) (b_iT_number) (b_iT_next) (by first | with_reducible assumption | omega | assumption) s.heap.size) (cwV 2 hts gwsMX10_farEnd_0 rfl rfl rfl hd_yX9_fail_RX9 (by decide +kernel)) (fz_preE (va_recv hK hP (ci := 9) (q0 := 12) rfl rfl) hPc hKc hDc (fun a U g mk qE => qE.call) (fun U hU9 hW => by rw [hU9]; exact (((hE : CE A s s.heap).kept hS.2.1).narrow (fun q h => hFc q h)).warm hW)) rfl rfl hl.1 rfl (lv_room (Nat.le_of_ble_eq_true rfl)) dX10_farEnd_51 (by decide +kernel)) hS (fun q _ h => hFc q h) hFc (fun q _ h => hFc q h) (fun E ce q9 u t9_ H locs ht hvm hw9 hB9 hz1 hk1 hS hc1 hc2 hc3 => ?_) (fun u t9_ H1 locs ht hvm hw9 hB9 hz1 hk1 hS => ?_)
        · revert u hw9 hB9
          refine fz_p2 ?_
          intro iT_fault_35 iT_place_35 hw9 hB9
          try dsimp only at hw9 hB9
          revert hB9
          refine fz_a2 ?_
          intro hEx hB9
          clear hw9
          obtain ⟨hP, hD⟩ := va_join (wr := [(hL 0, .inr (10, [.ref (hT 0), .ref (hM 0), (.ref dF_tree), .int iL_names, .ref (aL 0), .ref (aL 1), .ref (aL 2), .ref (aL 3), .ref (aL 4), .int iL_params, .ref dL_paramOver, .ref dL_paramUnder, .ref (aL 7), .ref (aL 8), .ref (aL 9), .int iL_nameAt, .int iL_startAt, .int iL_steps, .long jL_scaleOver, .long jL_scaleUnder])), (aL 0, .inl (kL 0, 40, .inr (.inl gL_key))), (aL 1, .inl (kL 1, 40, .inl fL_kind)), (aL 2, .inl (kL 2, 40, .inl fL_one)), (aL 3, .inl (kL 3, 40, .inl fL_two)), (aL 4, .inl (kL 4, 40, .inl fL_base)), (dL_paramOver, .inl (kL 5, nL_params, .inl fL_paramOver)), (dL_paramUnder, .inl (kL 6, nL_pu, .inl fL_paramUnder)), (aL 7, .inl (kL 7, 360, .inr (.inl gL_over))), (aL 8, .inl (kL 8, 360, .inr (.inl gL_under))), (aL 9, .inl (kL 9, 64, .inl fL_bound)), (dF_tree, .inl (kF 0, nF_tree, .inl fF_tree))]) (w1 := WT hT aT kT fT_tape dT_tape nT_tape iT_length iT_fault_35 iT_place_35 iT_kind iT_at iT_number jT_name iT_next) hP hD [12, 13] [0, 1, 2, 3, 4, 5, 6, 7, 8, 9, 10, 11] rfl rfl (by decide) (by decide) hk1 hFc (fz_P ht hB9.1) hB9.2
          have hP : va_P (dC, dI) vwCl (WL hL aL kL hT hM (.ref dF_tree) iL_names gL_key fL_kind fL_one fL_two fL_base iL_params fL_paramOver dL_paramOver nL_params fL_paramUnder dL_paramUnder nL_pu gL_over gL_under fL_bound iL_nameAt iL_startAt iL_steps jL_scaleOver jL_scaleUnder ++ (WF hF aF kF dF_tree nF_tree fF_tree ++ (WT hT aT kT fT_tape dT_tape nT_tape iT_length iT_fault_35 iT_place_35 iT_kind iT_at iT_number jT_name iT_next))) H := hP.sub [0, 1, 2, 3, 4, 5, 6, 7, 8, 9, 10, 11, 12, 13] rfl
          have hD : va_D A (WL hL aL kL hT hM (.ref dF_tree) iL_names gL_key fL_kind fL_one fL_two fL_base iL_params fL_paramOver dL_paramOver nL_params fL_paramUnder dL_paramUnder nL_pu gL_over gL_under fL_bound iL_nameAt iL_startAt iL_steps jL_scaleOver jL_scaleUnder ++ (WF hF aF kF dF_tree nF_tree fF_tree ++ (WT hT aT kT fT_tape dT_tape nT_tape iT_length iT_fault_35 iT_place_35 iT_kind iT_at iT_number jT_name iT_next))) := hD.sub [0, 1, 2, 3, 4, 5, 6, 7, 8, 9, 10, 11, 12, 13] (by decide) rfl
          exact vx_out (fun x hx9 => (htab x hx9).elim) hlocks hc1 hc2 hc3 (fun t9_ ht hvm => ⟨(iT_fault_35, iT_place_35), trivial, ⟨(by have h9 := hEx; exact h9), by rw [ht]; exact hP, hD⟩, hS.F ht⟩) hS.2.2 (by decide +kernel) (by decide +kernel)
        exact False.elim hw9
theorem dX10_multiplyCases_0 : decode cX10_multiplyCases 0 = .ok (.aload_n 0, 1) := dk_42 (by decide +kernel)
theorem dX10_multiplyCases_1 : decode cX10_multiplyCases 1 = .ok (.getfield 51, 3) := dk_180 (by decide +kernel)
theorem dX10_multiplyCases_4 : decode cX10_multiplyCases 4 = .ok (.dup, 1) := dk_89 (by decide +kernel)
theorem dX10_multiplyCases_5 : decode cX10_multiplyCases 5 = .ok (.getfield 114, 3) := dk_180 (by decide +kernel)
theorem dX10_multiplyCases_8 : decode cX10_multiplyCases 8 = .ok (.iload_n 1, 1) := dk_27 (by decide +kernel)
theorem dX10_multiplyCases_9 : decode cX10_multiplyCases 9 = .ok (.imul, 1) := dk_104 (by decide +kernel)
theorem dX10_multiplyCases_10 : decode cX10_multiplyCases 10 = .ok (.putfield 114, 3) := dk_181 (by decide +kernel)
theorem dX10_multiplyCases_13 : decode cX10_multiplyCases 13 = .ok (.aload_n 0, 1) := dk_42 (by decide +kernel)
theorem dX10_multiplyCases_14 : decode cX10_multiplyCases 14 = .ok (.getfield 51, 3) := dk_180 (by decide +kernel)
theorem dX10_multiplyCases_17 : decode cX10_multiplyCases 17 = .ok (.getfield 114, 3) := dk_180 (by decide +kernel)
theorem dX10_multiplyCases_20 : decode cX10_multiplyCases 20 = .ok (.bipush 64, 2) := dk_16 (by decide +kernel)
theorem dX10_multiplyCases_22 : decode cX10_multiplyCases 22 = .ok (.if_icmp .le 16, 3) := dk_164 (by decide +kernel)
theorem dX10_multiplyCases_25 : decode cX10_multiplyCases 25 = .ok (.aload_n 0, 1) := dk_42 (by decide +kernel)
theorem dX10_multiplyCases_26 : decode cX10_multiplyCases 26 = .ok (.getfield 47, 3) := dk_180 (by decide +kernel)
theorem dX10_multiplyCases_29 : decode cX10_multiplyCases 29 = .ok (.bipush 11, 2) := dk_16 (by decide +kernel)
theorem dX10_multiplyCases_31 : decode cX10_multiplyCases 31 = .ok (.aload_n 0, 1) := dk_42 (by decide +kernel)
theorem dX10_multiplyCases_32 : decode cX10_multiplyCases 32 = .ok (.getfield 74, 3) := dk_180 (by decide +kernel)
theorem dX10_multiplyCases_35 : decode cX10_multiplyCases 35 = .ok (.invokevirtual 90, 3) := dk_182 (by decide +kernel)
theorem dX10_multiplyCases_38 : decode cX10_multiplyCases 38 = .ok (.return_, 1) := dk_177 (by decide +kernel)
def wsMX10_multiplyCases : List Cond := .code yX10_multiplyCases cX10_multiplyCases 2 none :: ([.fieldLink RX10 51 "OptimaWorks$Worker" "model" "LOptimaWorks$Model;", .fieldLink RX10 114 "OptimaWorks$Model" "cases" "I", .fieldLink RX10 47 "OptimaWorks$Worker" "words" "LOptimaWorks$Words;", .fieldLink RX10 74 "OptimaWorks$Worker" "nameAt" "I"] ++ wsX10 ++ wsX100 ++ (wsV RX10 90 RX9 yX9_fail wsMX9_fail))
theorem iwsMX10_multiplyCases_in1 : ∀ w ∈ wsX10, w ∈ wsMX10_multiplyCases := fun _ h => List.mem_cons_of_mem _ (List.mem_append_left _ (List.mem_append_left _ (List.mem_append_right _ h)))
theorem iwsMX10_multiplyCases_in10 : ∀ w ∈ wsX100, w ∈ wsMX10_multiplyCases := fun _ h => List.mem_cons_of_mem _ (List.mem_append_left _ (List.mem_append_right _ h))
theorem gwsMX10_multiplyCases_0 : GoodIn wsMX10_multiplyCases (wsV RX10 90 RX9 yX9_fail wsMX9_fail) := goodIn_sub (fun _ h => List.mem_cons_of_mem _ (List.mem_append_right _ h)) (gdV (by decide +kernel) gdwsMX9_fail)
theorem gdwsMX10_multiplyCases : wsMX10_multiplyCases.all goodWord = true := gdC rfl (gdA (gdA (gdA (by decide +kernel : ([.fieldLink RX10 51 "OptimaWorks$Worker" "model" "LOptimaWorks$Model;", .fieldLink RX10 114 "OptimaWorks$Model" "cases" "I", .fieldLink RX10 47 "OptimaWorks$Worker" "words" "LOptimaWorks$Words;", .fieldLink RX10 74 "OptimaWorks$Worker" "nameAt" "I"] : List Cond).all goodWord = true) gdwsX10) gdwsX100) (gdV (by decide +kernel) gdwsMX9_fail))
set_option maxHeartbeats 4000000 in
set_option maxRecDepth 100000 in
/-- more cases -/
theorem m_X10_multiplyCases (l : Launch) (hst : l.stackTraces = false) (dC : Nat → ClassId) (dI : Nat → Nat → Nat) (hL : Nat → Nat) (aL : Nat → Nat) (kL : Nat → ClassId) (hT : Nat → Nat) (hM : Nat → Nat) (xL_tree : Value) (iL_names : Int32) (gL_key : Nat → Int64) (fL_kind : Nat → Int32) (fL_one : Nat → Int32) (fL_two : Nat → Int32) (fL_base : Nat → Int32) (iL_params : Int32) (fL_paramOver : Nat → Int32) (dL_paramOver : Nat) (nL_params : Nat) (fL_paramUnder : Nat → Int32) (dL_paramUnder : Nat) (nL_pu : Nat) (gL_over : Nat → Int64) (gL_under : Nat → Int64) (fL_bound : Nat → Int32) (iL_nameAt : Int32) (iL_startAt : Int32) (iL_steps : Int32) (jL_scaleOver : Int64) (jL_scaleUnder : Int64) (aT : Nat → Nat) (kT : Nat → ClassId) (fT_tape : Nat → Int32) (dT_tape : Nat) (nT_tape : Nat) (iT_length : Int32) (iT_fault : Int32) (iT_place : Int32) (iT_kind : Int32) (iT_at : Int32) (iT_number : Int32) (jT_name : Int64) (iT_next : Int32) (aM : Nat → Nat) (kM : Nat → ClassId) (iM_stands : Int32) (iM_variables : Int32) (iM_rows : Int32) (iM_goals : Int32) (iM_differents : Int32) (iM_cases : Int32) (fM_from : Nat → Int32) (fM_to : Nat → Int32) (fM_whole : Nat → Int32) (fM_ways : Nat → Int32) (iM_plainRows : Int32) (fM_plainRow : Nat → Int32) (fM_kept : Nat → Int32) (fM_goalOver : Nat → Int32) (fM_goalUnder : Nat → Int32) (fM_goalMax : Nat → Int32) (fM_different : Nat → Int32) (p1 : Int32) (b_iL_names : 0 ≤ iL_names.toInt ∧ iL_names.toInt ≤ 40) (b_fL_kind : ∀ q : Nat, 0 ≤ (fL_kind q).toInt ∧ (fL_kind q).toInt ≤ 5) (b_fL_two : ∀ q : Nat, (-1) ≤ (fL_two q).toInt ∧ (fL_two q).toInt ≤ 39) (b_fL_base : ∀ q : Nat, 0 ≤ (fL_base q).toInt ∧ (fL_base q).toInt ≤ 2560) (b_iL_params : 0 ≤ iL_params.toInt ∧ iL_params.toInt ≤ 2560) (b_nL_params : 0 ≤ nL_params ∧ nL_params ≤ 2560) (b_nm : NmL iL_names fL_kind fL_one fL_two fL_base nL_params) (b_pm : iL_params.toInt ≤ ((nL_params : Nat) : Int)) (b_pu : nL_pu = nL_params) (b_fT_tape : ∀ q : Nat, (-128) ≤ (fT_tape q).toInt ∧ (fT_tape q).toInt ≤ 127) (b_nT_tape : 64 ≤ nT_tape ∧ nT_tape ≤ 2560) (b_iT_length : 0 ≤ iT_length.toInt ∧ iT_length.toInt ≤ 1280) (b_iT_at : 0 ≤ iT_at.toInt ∧ iT_at.toInt ≤ 1282) (b_iT_number : 0 ≤ iT_number.toInt ∧ iT_number.toInt ≤ 999999) (b_iT_next : 0 ≤ iT_next.toInt ∧ iT_next.toInt ≤ 1282) (b_len : iT_length.toInt ≤ ((nT_tape : Nat) : Int)) (b_iM_stands : 0 ≤ iM_stands.toInt ∧ iM_stands.toInt ≤ 1) (b_iM_variables : 0 ≤ iM_variables.toInt ∧ iM_variables.toInt ≤ 8) (b_iM_rows : 0 ≤ iM_rows.toInt ∧ iM_rows.toInt ≤ 12) (b_iM_goals : 0 ≤ iM_goals.toInt ∧ iM_goals.toInt ≤ 3) (b_iM_differents : 0 ≤ iM_differents.toInt ∧ iM_differents.toInt ≤ 8) (b_iM_cases : 0 ≤ iM_cases.toInt ∧ iM_cases.toInt ≤ 200000) (b_fM_ways : ∀ q : Nat, 0 ≤ (fM_ways q).toInt ∧ (fM_ways q).toInt ≤ 3) (b_iM_plainRows : 0 ≤ iM_plainRows.toInt ∧ iM_plainRows.toInt ≤ 12) (b_fM_plainRow : ∀ q : Nat, 0 ≤ (fM_plainRow q).toInt ∧ (fM_plainRow q).toInt ≤ 11) (b_pr : iM_plainRows.toInt ≤ iM_rows.toInt) (b_p1 : 1 ≤ p1.toInt ∧ p1.toInt ≤ 1999) (hc64 : iM_cases.toInt ≤ 64) (sz : Nat) : vx_Met l yX10_multiplyCases wsMX10_multiplyCases ({ frames := 7, cells := 1, slots := 6, locals := 103 }) (va_Pc [.ref (hL 0), .int p1] (fun U => U.heap.size = sz ∧ va_P (dC, dI) vwCl (WL hL aL kL hT hM xL_tree iL_names gL_key fL_kind fL_one fL_two fL_base iL_params fL_paramOver dL_paramOver nL_params fL_paramUnder dL_paramUnder nL_pu gL_over gL_under fL_bound iL_nameAt iL_startAt iL_steps jL_scaleOver jL_scaleUnder ++ (WT hT aT kT fT_tape dT_tape nT_tape iT_length iT_fault iT_place iT_kind iT_at iT_number jT_name iT_next ++ (WM hM aM kM iM_stands iM_variables iM_rows iM_goals iM_differents iM_cases fM_from fM_to fM_whole fM_ways iM_plainRows fM_plainRow fM_kept fM_goalOver fM_goalUnder fM_goalMax fM_different))) U.heap ∧ va_K (dC, dI) vwCl (tL kL ++ (tT kT ++ (tM kM))) U ∧ va_D (fun _ => True) (WL hL aL kL hT hM xL_tree iL_names gL_key fL_kind fL_one fL_two fL_base iL_params fL_paramOver dL_paramOver nL_params fL_paramUnder dL_paramUnder nL_pu gL_over gL_under fL_bound iL_nameAt iL_startAt iL_steps jL_scaleOver jL_scaleUnder ++ (WT hT aT kT fT_tape dT_tape nT_tape iT_length iT_fault iT_place iT_kind iT_at iT_number jT_name iT_next ++ (WM hM aM kM iM_stands iM_variables iM_rows iM_goals iM_differents iM_cases fM_from fM_to fM_whole fM_ways iM_plainRows fM_plainRow fM_kept fM_goalOver fM_goalUnder fM_goalMax fM_different))) ∧ CE (va_A (WL hL aL kL hT hM xL_tree iL_names gL_key fL_kind fL_one fL_two fL_base iL_params fL_paramOver dL_paramOver nL_params fL_paramUnder dL_paramUnder nL_pu gL_over gL_under fL_bound iL_nameAt iL_startAt iL_steps jL_scaleOver jL_scaleUnder ++ (WT hT aT kT fT_tape dT_tape nT_tape iT_length iT_fault iT_place iT_kind iT_at iT_number jT_name iT_next ++ (WM hM aM kM iM_stands iM_variables iM_rows iM_goals iM_differents iM_cases fM_from fM_to fM_whole fM_ways iM_plainRows fM_plainRow fM_kept fM_goalOver fM_goalUnder fM_goalMax fM_different))) sz) U U.heap)) (va_Qv (fun (u : (Int32) × (Int32) × (Int32)) => (0 ≤ (u.2.2).toInt ∧ (u.2.2).toInt ≤ 200000) ∧ ((u.2.2).toInt ≤ 64)) (fun (u : (Int32) × (Int32) × (Int32)) t => va_P (dC, dI) vwCl (WL hL aL kL hT hM xL_tree iL_names gL_key fL_kind fL_one fL_two fL_base iL_params fL_paramOver dL_paramOver nL_params fL_paramUnder dL_paramUnder nL_pu gL_over gL_under fL_bound iL_nameAt iL_startAt iL_steps jL_scaleOver jL_scaleUnder ++ (WT hT aT kT fT_tape dT_tape nT_tape iT_length (u.1) (u.2.1) iT_kind iT_at iT_number jT_name iT_next ++ (WM hM aM kM iM_stands iM_variables iM_rows iM_goals iM_differents (u.2.2) fM_from fM_to fM_whole fM_ways iM_plainRows fM_plainRow fM_kept fM_goalOver fM_goalUnder fM_goalMax fM_different))) t.heap ∧ va_D (va_A (WL hL aL kL hT hM xL_tree iL_names gL_key fL_kind fL_one fL_two fL_base iL_params fL_paramOver dL_paramOver nL_params fL_paramUnder dL_paramUnder nL_pu gL_over gL_under fL_bound iL_nameAt iL_startAt iL_steps jL_scaleOver jL_scaleUnder ++ (WT hT aT kT fT_tape dT_tape nT_tape iT_length iT_fault iT_place iT_kind iT_at iT_number jT_name iT_next ++ (WM hM aM kM iM_stands iM_variables iM_rows iM_goals iM_differents iM_cases fM_from fM_to fM_whole fM_ways iM_plainRows fM_plainRow fM_kept fM_goalOver fM_goalUnder fM_goalMax fM_different))) sz) (WL hL aL kL hT hM xL_tree iL_names gL_key fL_kind fL_one fL_two fL_base iL_params fL_paramOver dL_paramOver nL_params fL_paramUnder dL_paramUnder nL_pu gL_over gL_under fL_bound iL_nameAt iL_startAt iL_steps jL_scaleOver jL_scaleUnder ++ (WT hT aT kT fT_tape dT_tape nT_tape iT_length (u.1) (u.2.1) iT_kind iT_at iT_number jT_name iT_next ++ (WM hM aM kM iM_stands iM_variables iM_rows iM_goals iM_differents (u.2.2) fM_from fM_to fM_whole fM_ways iM_plainRows fM_plainRow fM_kept fM_goalOver fM_goalUnder fM_goalMax fM_different))) ∧ t.heap.size = sz) (va_A (WL hL aL kL hT hM xL_tree iL_names gL_key fL_kind fL_one fL_two fL_base iL_params fL_paramOver dL_paramOver nL_params fL_paramUnder dL_paramUnder nL_pu gL_over gL_under fL_bound iL_nameAt iL_startAt iL_steps jL_scaleOver jL_scaleUnder ++ (WT hT aT kT fT_tape dT_tape nT_tape iT_length iT_fault iT_place iT_kind iT_at iT_number jT_name iT_next ++ (WM hM aM kM iM_stands iM_variables iM_rows iM_goals iM_differents iM_cases fM_from fM_to fM_whole fM_ways iM_plainRows fM_plainRow fM_kept fM_goalOver fM_goalUnder fM_goalMax fM_different))) sz)) (vx_X (fun (u : (Int32) × (Int32) × (Int32)) => (0 ≤ (u.2.2).toInt ∧ (u.2.2).toInt ≤ 200000)) (fun E (u : (Int32) × (Int32) × (Int32)) t => (E = "java/lang/IllegalArgumentException") ∧ va_P (dC, dI) vwCl (WL hL aL kL hT hM xL_tree iL_names gL_key fL_kind fL_one fL_two fL_base iL_params fL_paramOver dL_paramOver nL_params fL_paramUnder dL_paramUnder nL_pu gL_over gL_under fL_bound iL_nameAt iL_startAt iL_steps jL_scaleOver jL_scaleUnder ++ (WT hT aT kT fT_tape dT_tape nT_tape iT_length (u.1) (u.2.1) iT_kind iT_at iT_number jT_name iT_next ++ (WM hM aM kM iM_stands iM_variables iM_rows iM_goals iM_differents (u.2.2) fM_from fM_to fM_whole fM_ways iM_plainRows fM_plainRow fM_kept fM_goalOver fM_goalUnder fM_goalMax fM_different))) t.heap ∧ va_D (va_A (WL hL aL kL hT hM xL_tree iL_names gL_key fL_kind fL_one fL_two fL_base iL_params fL_paramOver dL_paramOver nL_params fL_paramUnder dL_paramUnder nL_pu gL_over gL_under fL_bound iL_nameAt iL_startAt iL_steps jL_scaleOver jL_scaleUnder ++ (WT hT aT kT fT_tape dT_tape nT_tape iT_length iT_fault iT_place iT_kind iT_at iT_number jT_name iT_next ++ (WM hM aM kM iM_stands iM_variables iM_rows iM_goals iM_differents iM_cases fM_from fM_to fM_whole fM_ways iM_plainRows fM_plainRow fM_kept fM_goalOver fM_goalUnder fM_goalMax fM_different))) sz) (WL hL aL kL hT hM xL_tree iL_names gL_key fL_kind fL_one fL_two fL_base iL_params fL_paramOver dL_paramOver nL_params fL_paramUnder dL_paramUnder nL_pu gL_over gL_under fL_bound iL_nameAt iL_startAt iL_steps jL_scaleOver jL_scaleUnder ++ (WT hT aT kT fT_tape dT_tape nT_tape iT_length (u.1) (u.2.1) iT_kind iT_at iT_number jT_name iT_next ++ (WM hM aM kM iM_stands iM_variables iM_rows iM_goals iM_differents (u.2.2) fM_from fM_to fM_whole fM_ways iM_plainRows fM_plainRow fM_kept fM_goalOver fM_goalUnder fM_goalMax fM_different)))) (va_A (WL hL aL kL hT hM xL_tree iL_names gL_key fL_kind fL_one fL_two fL_base iL_params fL_paramOver dL_paramOver nL_params fL_paramUnder dL_paramUnder nL_pu gL_over gL_under fL_bound iL_nameAt iL_startAt iL_steps jL_scaleOver jL_scaleUnder ++ (WT hT aT kT fT_tape dT_tape nT_tape iT_length iT_fault iT_place iT_kind iT_at iT_number jT_name iT_next ++ (WM hM aM kM iM_stands iM_variables iM_rows iM_goals iM_differents iM_cases fM_from fM_to fM_whole fM_ways iM_plainRows fM_plainRow fM_kept fM_goalOver fM_goalUnder fM_goalMax fM_different))) sz)) 1 6 (va_A (WL hL aL kL hT hM xL_tree iL_names gL_key fL_kind fL_one fL_two fL_base iL_params fL_paramOver dL_paramOver nL_params fL_paramUnder dL_paramUnder nL_pu gL_over gL_under fL_bound iL_nameAt iL_startAt iL_steps jL_scaleOver jL_scaleUnder ++ (WT hT aT kT fT_tape dT_tape nT_tape iT_length iT_fault iT_place iT_kind iT_at iT_number jT_name iT_next ++ (WM hM aM kM iM_stands iM_variables iM_rows iM_goals iM_differents iM_cases fM_from fM_to fM_whole fM_ways iM_plainRows fM_plainRow fM_kept fM_goalOver fM_goalUnder fM_goalMax fM_different))) sz) := by
  refine vx_ofW (cc := cX10_multiplyCases) (maxL := 2) (ret := none) (by decide) rfl ?_
  intro p e s m args below meth c s₁ B hml htab hv
  obtain ⟨rfl, hsz, hP, hK, hD0, hE⟩ := hv
  have hx := B.exec
  have hb := B.bytes
  have hr := B.returns
  have hts := atoms_spec (ws := wsMX10_multiplyCases) B.pre
  have hown : s.vm.findClass RX10 = some m.cls := findClass_of_methodNamed B.named
  have hlocks := B.notSynchronized
  subst hsz
  have hD := hD0.self (sz := s.heap.size)
  generalize hAe : va_A (WL hL aL kL hT hM xL_tree iL_names gL_key fL_kind fL_one fL_two fL_base iL_params fL_paramOver dL_paramOver nL_params fL_paramUnder dL_paramUnder nL_pu gL_over gL_under fL_bound iL_nameAt iL_startAt iL_steps jL_scaleOver jL_scaleUnder ++ (WT hT aT kT fT_tape dT_tape nT_tape iT_length iT_fault iT_place iT_kind iT_at iT_number jT_name iT_next ++ (WM hM aM kM iM_stands iM_variables iM_rows iM_goals iM_differents iM_cases fM_from fM_to fM_whole fM_ways iM_plainRows fM_plainRow fM_kept fM_goalOver fM_goalUnder fM_goalMax fM_different))) s.heap.size = A at hD hE ⊢
  have hA : ∀ q : Nat, s.heap.size ≤ q → A q := fun q h => by rw [← hAe]; exact Or.inr h
  have hS : va_S A s.heap s.heap [] := va_S.rf
  have hl := lv_entry ([.ref (hL 0), .int p1]) (n := 2) (Nat.le_of_ble_eq_true rfl)
  rw [lg_entry_eq]
  generalize (lg_sl ([.ref (hL 0), .int p1]) ++ List.replicate (2 - (lg_sl ([.ref (hL 0), .int p1])).length) Slot.unset).toArray = ls at hl ⊢
  have hl : lv_has ls 2 [(0, .ref (hL 0)), (1, .int p1)] := hl
  have hmul := mul_64 ⟨b_iM_cases.1, hc64⟩ b_p1
  refine lv_aload_n hx hb dX10_multiplyCases_0 rfl (lv_at hl 0 rfl) ?_
  refine va_get (D := (dC, dI)) (ci := 10) (v := .ref (hM 0)) (C := RX10) (T := TX10) (N := 20) hx hb hts iwsMX10_multiplyCases_in10 hown hK hP 0 rfl rfl 1 (by decide) (hts (.fieldLink RX10 51 "OptimaWorks$Worker" "model" "LOptimaWorks$Model;") (by decide +kernel)) (fun _ h9 => h9) rfl dX10_multiplyCases_1 ?_
  refine lv_dup hx hb dX10_multiplyCases_4 rfl ?_
  refine va_get (D := (dC, dI)) (ci := 1) (v := .int iM_cases) (C := RX1) (T := TX1) (N := 17) hx hb hts iwsMX10_multiplyCases_in1 hown hK hP 13 rfl rfl 5 (by decide) (hts (.fieldLink RX10 114 "OptimaWorks$Model" "cases" "I") (by decide +kernel)) (fun _ h9 => h9) rfl dX10_multiplyCases_5 ?_
  refine lv_iload_n hx hb dX10_multiplyCases_8 rfl (lv_at hl 1 rfl) ?_
  refine lv_imul hx hb dX10_multiplyCases_9 ?_
  refine lv_topi (fun y1 hy1 => ?_)
  obtain rfl : (iI (iM_cases.toInt * p1.toInt)) = y1 := (hy1.trans (iI_mul2 (iI_of _) (iI_of _))).symm
  refine va_put (D := (dC, dI)) (ci := 1) (v := .int (iI (iM_cases.toInt * p1.toInt))) (ty := .int) (C := RX1) (T := TX1) (N := 17) hx hb hts iwsMX10_multiplyCases_in1 tyX1 tyX1_ok nmX1 hown hK hP hD hS 13 rfl rfl 5 (by decide) (hts (.fieldLink RX10 114 "OptimaWorks$Model" "cases" "I") (by decide +kernel)) (fun _ h9 => h9) rfl (by decide +kernel) rfl rfl (Nat.le_of_ble_eq_true rfl) dX10_multiplyCases_10 (fun H locs hP hD hS => ?_)
  have hP : va_P (dC, dI) vwCl (WL hL aL kL hT hM xL_tree iL_names gL_key fL_kind fL_one fL_two fL_base iL_params fL_paramOver dL_paramOver nL_params fL_paramUnder dL_paramUnder nL_pu gL_over gL_under fL_bound iL_nameAt iL_startAt iL_steps jL_scaleOver jL_scaleUnder ++ (WT hT aT kT fT_tape dT_tape nT_tape iT_length iT_fault iT_place iT_kind iT_at iT_number jT_name iT_next ++ (WM hM aM kM iM_stands iM_variables iM_rows iM_goals iM_differents (iI (iM_cases.toInt * p1.toInt)) fM_from fM_to fM_whole fM_ways iM_plainRows fM_plainRow fM_kept fM_goalOver fM_goalUnder fM_goalMax fM_different))) H := hP
  have hD : va_D A (WL hL aL kL hT hM xL_tree iL_names gL_key fL_kind fL_one fL_two fL_base iL_params fL_paramOver dL_paramOver nL_params fL_paramUnder dL_paramUnder nL_pu gL_over gL_under fL_bound iL_nameAt iL_startAt iL_steps jL_scaleOver jL_scaleUnder ++ (WT hT aT kT fT_tape dT_tape nT_tape iT_length iT_fault iT_place iT_kind iT_at iT_number jT_name iT_next ++ (WM hM aM kM iM_stands iM_variables iM_rows iM_goals iM_differents (iI (iM_cases.toInt * p1.toInt)) fM_from fM_to fM_whole fM_ways iM_plainRows fM_plainRow fM_kept fM_goalOver fM_goalUnder fM_goalMax fM_different))) := hD
  refine lv_aload_n hx hb dX10_multiplyCases_13 rfl (lv_at hl 0 rfl) ?_
  refine va_get (D := (dC, dI)) (ci := 10) (v := .ref (hM 0)) (C := RX10) (T := TX10) (N := 20) hx hb hts iwsMX10_multiplyCases_in10 hown hK hP 0 rfl rfl 1 (by decide) (hts (.fieldLink RX10 51 "OptimaWorks$Worker" "model" "LOptimaWorks$Model;") (by decide +kernel)) (fun _ h9 => h9) rfl dX10_multiplyCases_14 ?_
  refine va_get (D := (dC, dI)) (ci := 1) (v := .int (iI (iM_cases.toInt * p1.toInt))) (C := RX1) (T := TX1) (N := 17) hx hb hts iwsMX10_multiplyCases_in1 hown hK hP 13 rfl rfl 5 (by decide) (hts (.fieldLink RX10 114 "OptimaWorks$Model" "cases" "I") (by decide +kernel)) (fun _ h9 => h9) rfl dX10_multiplyCases_17 ?_
  refine lv_bipush (v := 64) hx hb dX10_multiplyCases_20 (by decide) ?_
  refine lv_icmp_le (tgt := 38) hx hb dX10_multiplyCases_22 (by decide) (fun c_22 => ?_) (fun c_22 => ?_)
  · first | (have t_22 : (iM_cases.toInt * p1.toInt) ≤ 64 := toI_le c_22 (iI_t (by omega) (by omega)) (by decide : (64 : Int32).toInt = 64)) | skip
    refine vx_ret ?_
    refine W.known (fun hz9 _ => ?_)
    refine W.widen (k := 1) (n := 6) (by decide +kernel) (by decide +kernel) ?_
    exact W.vret hx hb hr (fun t9_ ht hW => ⟨⟨(iT_fault, iT_place, (iI (iM_cases.toInt * p1.toInt))), rfl, ⟨(by (try dsimp only); exact (iI_rng (by omega) (by omega) (by decide) (by decide))), (by (try dsimp only); rw [iI_t (by omega) (by omega)]; omega)⟩, by rw [ht]; exact hP, hD, by rw [ht]; first | done | exact Nat.le_antisymm hz9 hS.1⟩, hS.F ht⟩) hS.2.2 dX10_multiplyCases_38
  · first | (have t_22 : ¬ (iM_cases.toInt * p1.toInt) ≤ 64 := toI_nle c_22 (iI_t (by omega) (by omega)) (by decide : (64 : Int32).toInt = 64)) | skip
    refine lv_aload_n hx hb dX10_multiplyCases_25 rfl (lv_at hl 0 rfl) ?_
    refine va_get (D := (dC, dI)) (ci := 10) (v := .ref (hT 0)) (C := RX10) (T := TX10) (N := 20) hx hb hts iwsMX10_multiplyCases_in10 hown hK hP 0 rfl rfl 0 (by decide) (hts (.fieldLink RX10 47 "OptimaWorks$Worker" "words" "LOptimaWorks$Words;") (by decide +kernel)) (fun _ h9 => h9) rfl dX10_multiplyCases_26 ?_
    refine lv_bipush (v := 11) hx hb dX10_multiplyCases_29 (by decide) ?_
    refine lv_aload_n hx hb dX10_multiplyCases_31 rfl (lv_at hl 0 rfl) ?_
    refine va_get (D := (dC, dI)) (ci := 10) (v := .int iL_nameAt) (C := RX10) (T := TX10) (N := 20) hx hb hts iwsMX10_multiplyCases_in10 hown hK hP 0 rfl rfl 15 (by decide) (hts (.fieldLink RX10 74 "OptimaWorks$Worker" "nameAt" "I") (by decide +kernel)) (fun _ h9 => h9) rfl dX10_multiplyCases_32 ?_
    have hPc : va_P (dC, dI) vwCl (WT hT aT kT fT_tape dT_tape nT_tape iT_length iT_fault iT_place iT_kind iT_at iT_number jT_name iT_next) _ := hP.sub [11, 12] rfl
    have hDc : va_D _ (WT hT aT kT fT_tape dT_tape nT_tape iT_length iT_fault iT_place iT_kind iT_at iT_number jT_name iT_next) := hD.sub [11, 12] (by decide) rfl
    have hKc : va_K (dC, dI) vwCl (tT kT) _ := hK.sub [10] rfl
    have hFc := va_free (wc := WT hT aT kT fT_tape dT_tape nT_tape iT_length iT_fault iT_place iT_kind iT_at iT_number jT_name iT_next) hD hS hA [11, 12] rfl
    refine vx_callv (vx_runV (As := [.int 11, .int iL_nameAt]) (rest := []) ⟨hx, hb, hml, hown, hts⟩ (m_X9_fail l hst dC dI hT aT kT fT_tape dT_tape nT_tape iT_length iT_fault iT_place iT_kind iT_at iT_number jT_name iT_next 11 iL_nameAt b_fT_tape (by first | exact b_nT_tape | with_reducible assumption | exact ⟨by omega, by omega⟩ | assumption) (b_iT_length) (b_iT_at) (b_iT_number) (b_iT_next) (by first | with_reducible assumption | omega | assumption) H.size) (cwV 2 hts gwsMX10_multiplyCases_0 rfl rfl rfl hd_yX9_fail_RX9 (by decide +kernel)) (fz_preE (va_recv hK hP (ci := 9) (q0 := 11) rfl rfl) hPc hKc hDc (fun a U g mk qE => qE.call) (fun U hU9 hW => by rw [hU9]; exact (((hE : CE A s s.heap).kept hS.2.1).narrow (fun q h => hFc q h)).warm hW)) rfl rfl hl.1 rfl (lv_room (Nat.le_of_ble_eq_true rfl)) dX10_multiplyCases_35 (by decide +kernel)) hS (fun q _ h => hFc q h) hFc (fun q _ h => hFc q h) (fun E ce q9 u t9_ H locs ht hvm hw9 hB9 hz1 hk1 hS hc1 hc2 hc3 => ?_) (fun u t9_ H1 locs ht hvm hw9 hB9 hz1 hk1 hS => ?_)
    · revert u hw9 hB9
      refine fz_p2 ?_
      intro iT_fault_3 iT_place_3 hw9 hB9
      try dsimp only at hw9 hB9
      revert hB9
      refine fz_a2 ?_
      intro hEx hB9
      clear hw9
      obtain ⟨hP, hD⟩ := va_join (wr := [(hL 0, .inr (10, [.ref (hT 0), .ref (hM 0), xL_tree, .int iL_names, .ref (aL 0), .ref (aL 1), .ref (aL 2), .ref (aL 3), .ref (aL 4), .int iL_params, .ref dL_paramOver, .ref dL_paramUnder, .ref (aL 7), .ref (aL 8), .ref (aL 9), .int iL_nameAt, .int iL_startAt, .int iL_steps, .long jL_scaleOver, .long jL_scaleUnder])), (aL 0, .inl (kL 0, 40, .inr (.inl gL_key))), (aL 1, .inl (kL 1, 40, .inl fL_kind)), (aL 2, .inl (kL 2, 40, .inl fL_one)), (aL 3, .inl (kL 3, 40, .inl fL_two)), (aL 4, .inl (kL 4, 40, .inl fL_base)), (dL_paramOver, .inl (kL 5, nL_params, .inl fL_paramOver)), (dL_paramUnder, .inl (kL 6, nL_pu, .inl fL_paramUnder)), (aL 7, .inl (kL 7, 360, .inr (.inl gL_over))), (aL 8, .inl (kL 8, 360, .inr (.inl gL_under))), (aL 9, .inl (kL 9, 64, .inl fL_bound)), (hM 0, .inr (1, [.int iM_stands, .int iM_variables, .int iM_rows, .int iM_goals, .int iM_differents, .int (iI (iM_cases.toInt * p1.toInt)), .ref (aM 0), .ref (aM 1), .ref (aM 2), .ref (aM 3), .int iM_plainRows, .ref (aM 4), .ref (aM 5), .ref (aM 6), .ref (aM 7), .ref (aM 8), .ref (aM 9)])), (aM 0, .inl (kM 0, 8, .inl fM_from)), (aM 1, .inl (kM 1, 8, .inl fM_to)), (aM 2, .inl (kM 2, 8, .inl fM_whole)), (aM 3, .inl (kM 3, 12, .inl fM_ways)), (aM 4, .inl (kM 4, 12, .inl fM_plainRow)), (aM 5, .inl (kM 5, 360, .inl fM_kept)), (aM 6, .inl (kM 6, 27, .inl fM_goalOver)), (aM 7, .inl (kM 7, 27, .inl fM_goalUnder)), (aM 8, .inl (kM 8, 3, .inl fM_goalMax)), (aM 9, .inl (kM 9, 8, .inl fM_different))]) (w1 := WT hT aT kT fT_tape dT_tape nT_tape iT_length iT_fault_3 iT_place_3 iT_kind iT_at iT_number jT_name iT_next) hP hD [11, 12] [0, 1, 2, 3, 4, 5, 6, 7, 8, 9, 10, 13, 14, 15, 16, 17, 18, 19, 20, 21, 22, 23] rfl rfl (by decide) (by decide) hk1 hFc (fz_P ht hB9.1) hB9.2
      have hP : va_P (dC, dI) vwCl (WL hL aL kL hT hM xL_tree iL_names gL_key fL_kind fL_one fL_two fL_base iL_params fL_paramOver dL_paramOver nL_params fL_paramUnder dL_paramUnder nL_pu gL_over gL_under fL_bound iL_nameAt iL_startAt iL_steps jL_scaleOver jL_scaleUnder ++ (WT hT aT kT fT_tape dT_tape nT_tape iT_length iT_fault_3 iT_place_3 iT_kind iT_at iT_number jT_name iT_next ++ (WM hM aM kM iM_stands iM_variables iM_rows iM_goals iM_differents (iI (iM_cases.toInt * p1.toInt)) fM_from fM_to fM_whole fM_ways iM_plainRows fM_plainRow fM_kept fM_goalOver fM_goalUnder fM_goalMax fM_different))) H := hP.sub [0, 1, 2, 3, 4, 5, 6, 7, 8, 9, 10, 22, 23, 11, 12, 13, 14, 15, 16, 17, 18, 19, 20, 21] rfl
      have hD : va_D A (WL hL aL kL hT hM xL_tree iL_names gL_key fL_kind fL_one fL_two fL_base iL_params fL_paramOver dL_paramOver nL_params fL_paramUnder dL_paramUnder nL_pu gL_over gL_under fL_bound iL_nameAt iL_startAt iL_steps jL_scaleOver jL_scaleUnder ++ (WT hT aT kT fT_tape dT_tape nT_tape iT_length iT_fault_3 iT_place_3 iT_kind iT_at iT_number jT_name iT_next ++ (WM hM aM kM iM_stands iM_variables iM_rows iM_goals iM_differents (iI (iM_cases.toInt * p1.toInt)) fM_from fM_to fM_whole fM_ways iM_plainRows fM_plainRow fM_kept fM_goalOver fM_goalUnder fM_goalMax fM_different))) := hD.sub [0, 1, 2, 3, 4, 5, 6, 7, 8, 9, 10, 22, 23, 11, 12, 13, 14, 15, 16, 17, 18, 19, 20, 21] (by decide) rfl
      exact vx_out (fun x hx9 => (htab x hx9).elim) hlocks hc1 hc2 hc3 (fun t9_ ht hvm => ⟨(iT_fault_3, iT_place_3, (iI (iM_cases.toInt * p1.toInt))), (iI_rng (by omega) (by omega) (by decide) (by decide)), ⟨(by have h9 := hEx; exact h9), by rw [ht]; exact hP, hD⟩, hS.F ht⟩) hS.2.2 (by decide +kernel) (by decide +kernel)
    exact False.elim hw9
theorem dX10_boundMembers_0 : decode cX10_boundMembers 0 = .ok (.aload_n 0, 1) := dk_42 (by decide +kernel)
theorem dX10_boundMembers_1 : decode cX10_boundMembers 1 = .ok (.aload_n 0, 1) := dk_42 (by decide +kernel)
theorem dX10_boundMembers_2 : decode cX10_boundMembers 2 = .ok (.getfield 55, 3) := dk_180 (by decide +kernel)
theorem dX10_boundMembers_5 : decode cX10_boundMembers 5 = .ok (.iload_n 1, 1) := dk_27 (by decide +kernel)
theorem dX10_boundMembers_6 : decode cX10_boundMembers 6 = .ok (.iconst 3, 1) := dk_6 (by decide +kernel)
theorem dX10_boundMembers_7 : decode cX10_boundMembers 7 = .ok (.iadd, 1) := dk_96 (by decide +kernel)
theorem dX10_boundMembers_8 : decode cX10_boundMembers 8 = .ok (.iaload, 1) := dk_46 (by decide +kernel)
theorem dX10_boundMembers_9 : decode cX10_boundMembers 9 = .ok (.aload_n 0, 1) := dk_42 (by decide +kernel)
theorem dX10_boundMembers_10 : decode cX10_boundMembers 10 = .ok (.getfield 55, 3) := dk_180 (by decide +kernel)
theorem dX10_boundMembers_13 : decode cX10_boundMembers 13 = .ok (.iload_n 1, 1) := dk_27 (by decide +kernel)
theorem dX10_boundMembers_14 : decode cX10_boundMembers 14 = .ok (.iconst 4, 1) := dk_7 (by decide +kernel)
theorem dX10_boundMembers_15 : decode cX10_boundMembers 15 = .ok (.iadd, 1) := dk_96 (by decide +kernel)
theorem dX10_boundMembers_16 : decode cX10_boundMembers 16 = .ok (.iaload, 1) := dk_46 (by decide +kernel)
theorem dX10_boundMembers_17 : decode cX10_boundMembers 17 = .ok (.invokevirtual 246, 3) := dk_182 (by decide +kernel)
theorem dX10_boundMembers_20 : decode cX10_boundMembers 20 = .ok (.ireturn, 1) := dk_172 (by decide +kernel)
def wsMX10_boundMembers : List Cond := .code yX10_boundMembers cX10_boundMembers 2 (some .int) :: ([.fieldLink RX10 55 "OptimaWorks$Worker" "tree" "[I"] ++ wsX100 ++ (wsV RX10 246 RX10 yX10_members wsMX10_members))
theorem iwsMX10_boundMembers_in10 : ∀ w ∈ wsX100, w ∈ wsMX10_boundMembers := fun _ h => List.mem_cons_of_mem _ (List.mem_append_left _ (List.mem_append_right _ h))
theorem gwsMX10_boundMembers_0 : GoodIn wsMX10_boundMembers (wsV RX10 246 RX10 yX10_members wsMX10_members) := goodIn_sub (fun _ h => List.mem_cons_of_mem _ (List.mem_append_right _ h)) (gdV (by decide +kernel) gdwsMX10_members)
theorem gdwsMX10_boundMembers : wsMX10_boundMembers.all goodWord = true := gdC rfl (gdA (gdA (by decide +kernel : ([.fieldLink RX10 55 "OptimaWorks$Worker" "tree" "[I"] : List Cond).all goodWord = true) gdwsX100) (gdV (by decide +kernel) gdwsMX10_members))
set_option maxHeartbeats 4000000 in
set_option maxRecDepth 100000 in
/-- how many are bound -/
theorem m_X10_boundMembers (l : Launch) (dC : Nat → ClassId) (dI : Nat → Nat → Nat) (hL : Nat → Nat) (aL : Nat → Nat) (kL : Nat → ClassId) (hT : Nat → Nat) (hM : Nat → Nat) (iL_names : Int32) (gL_key : Nat → Int64) (fL_kind : Nat → Int32) (fL_one : Nat → Int32) (fL_two : Nat → Int32) (fL_base : Nat → Int32) (iL_params : Int32) (fL_paramOver : Nat → Int32) (dL_paramOver : Nat) (nL_params : Nat) (fL_paramUnder : Nat → Int32) (dL_paramUnder : Nat) (nL_pu : Nat) (gL_over : Nat → Int64) (gL_under : Nat → Int64) (fL_bound : Nat → Int32) (iL_nameAt : Int32) (iL_startAt : Int32) (iL_steps : Int32) (jL_scaleOver : Int64) (jL_scaleUnder : Int64) (hF : Nat → Nat) (aF : Nat → Nat) (kF : Nat → ClassId) (dF_tree : Nat) (nF_tree : Nat) (fF_tree : Nat → Int32) (V : Int → Nat → Nat → Prop) (lo : Int) (lv : Nat) (p1 : Int32) (b_iL_names : 0 ≤ iL_names.toInt ∧ iL_names.toInt ≤ 40) (b_fL_kind : ∀ q : Nat, 0 ≤ (fL_kind q).toInt ∧ (fL_kind q).toInt ≤ 5) (b_fL_two : ∀ q : Nat, (-1) ≤ (fL_two q).toInt ∧ (fL_two q).toInt ≤ 39) (b_fL_base : ∀ q : Nat, 0 ≤ (fL_base q).toInt ∧ (fL_base q).toInt ≤ 2560) (b_iL_params : 0 ≤ iL_params.toInt ∧ iL_params.toInt ≤ 2560) (b_nL_params : 0 ≤ nL_params ∧ nL_params ≤ 2560) (b_nm : NmL iL_names fL_kind fL_one fL_two fL_base nL_params) (b_pm : iL_params.toInt ≤ ((nL_params : Nat) : Int)) (b_pu : nL_pu = nL_params) (b_nF_tree : 7 ≤ nF_tree ∧ nF_tree ≤ 72200) (hV : TrL V fF_tree fL_kind fL_one fL_two iL_names.toInt lo ((nF_tree : Nat) : Int)) (hn : V p1.toInt 9 lv) (sz : Nat) : Met l yX10_boundMembers wsMX10_boundMembers ({ frames := 1, cells := 0, slots := 0, locals := 23 }) (va_Pc [.ref (hL 0), .int p1] (fun U => U.heap.size = sz ∧ va_P (dC, dI) vwCl (WL hL aL kL hT hM (.ref dF_tree) iL_names gL_key fL_kind fL_one fL_two fL_base iL_params fL_paramOver dL_paramOver nL_params fL_paramUnder dL_paramUnder nL_pu gL_over gL_under fL_bound iL_nameAt iL_startAt iL_steps jL_scaleOver jL_scaleUnder ++ (WF hF aF kF dF_tree nF_tree fF_tree)) U.heap ∧ va_K (dC, dI) vwCl (tL kL ++ (tF kF)) U ∧ va_D (fun _ => True) (WL hL aL kL hT hM (.ref dF_tree) iL_names gL_key fL_kind fL_one fL_two fL_base iL_params fL_paramOver dL_paramOver nL_params fL_paramUnder dL_paramUnder nL_pu gL_over gL_under fL_bound iL_nameAt iL_startAt iL_steps jL_scaleOver jL_scaleUnder ++ (WF hF aF kF dF_tree nF_tree fF_tree)))) (va_Qi (fun (r : Int32) (u : Unit) => (1 ≤ r.toInt ∧ r.toInt ≤ 144)) (fun (u : Unit) t => va_P (dC, dI) vwCl (WL hL aL kL hT hM (.ref dF_tree) iL_names gL_key fL_kind fL_one fL_two fL_base iL_params fL_paramOver dL_paramOver nL_params fL_paramUnder dL_paramUnder nL_pu gL_over gL_under fL_bound iL_nameAt iL_startAt iL_steps jL_scaleOver jL_scaleUnder ++ (WF hF aF kF dF_tree nF_tree fF_tree)) t.heap ∧ va_D (va_A (WL hL aL kL hT hM (.ref dF_tree) iL_names gL_key fL_kind fL_one fL_two fL_base iL_params fL_paramOver dL_paramOver nL_params fL_paramUnder dL_paramUnder nL_pu gL_over gL_under fL_bound iL_nameAt iL_startAt iL_steps jL_scaleOver jL_scaleUnder ++ (WF hF aF kF dF_tree nF_tree fF_tree)) sz) (WL hL aL kL hT hM (.ref dF_tree) iL_names gL_key fL_kind fL_one fL_two fL_base iL_params fL_paramOver dL_paramOver nL_params fL_paramUnder dL_paramUnder nL_pu gL_over gL_under fL_bound iL_nameAt iL_startAt iL_steps jL_scaleOver jL_scaleUnder ++ (WF hF aF kF dF_tree nF_tree fF_tree))) (va_A (WL hL aL kL hT hM (.ref dF_tree) iL_names gL_key fL_kind fL_one fL_two fL_base iL_params fL_paramOver dL_paramOver nL_params fL_paramUnder dL_paramUnder nL_pu gL_over gL_under fL_bound iL_nameAt iL_startAt iL_steps jL_scaleOver jL_scaleUnder ++ (WF hF aF kF dF_tree nF_tree fF_tree)) sz)) 0 0 (va_A (WL hL aL kL hT hM (.ref dF_tree) iL_names gL_key fL_kind fL_one fL_two fL_base iL_params fL_paramOver dL_paramOver nL_params fL_paramUnder dL_paramUnder nL_pu gL_over gL_under fL_bound iL_nameAt iL_startAt iL_steps jL_scaleOver jL_scaleUnder ++ (WF hF aF kF dF_tree nF_tree fF_tree)) sz) := by
  refine Met.ofW (cc := cX10_boundMembers) (maxL := 2) (ret := (some .int)) (by decide) rfl ?_
  intro p e s m args below meth c s₁ B hml hv
  obtain ⟨rfl, hsz, hP, hK, hD0⟩ := hv
  have hx := B.exec
  have hb := B.bytes
  have hr := B.returns
  have hts := atoms_spec (ws := wsMX10_boundMembers) B.pre
  have hown : s.vm.findClass RX10 = some m.cls := findClass_of_methodNamed B.named
  have hlocks := B.notSynchronized
  subst hsz
  have hD := hD0.self (sz := s.heap.size)
  generalize hAe : va_A (WL hL aL kL hT hM (.ref dF_tree) iL_names gL_key fL_kind fL_one fL_two fL_base iL_params fL_paramOver dL_paramOver nL_params fL_paramUnder dL_paramUnder nL_pu gL_over gL_under fL_bound iL_nameAt iL_startAt iL_steps jL_scaleOver jL_scaleUnder ++ (WF hF aF kF dF_tree nF_tree fF_tree)) s.heap.size = A at hD ⊢
  have hA : ∀ q : Nat, s.heap.size ≤ q → A q := fun q h => by rw [← hAe]; exact Or.inr h
  have hS : va_S A s.heap s.heap [] := va_S.rf
  have hl := lv_entry ([.ref (hL 0), .int p1]) (n := 2) (Nat.le_of_ble_eq_true rfl)
  rw [lg_entry_eq]
  generalize (lg_sl ([.ref (hL 0), .int p1]) ++ List.replicate (2 - (lg_sl ([.ref (hL 0), .int p1])).length) Slot.unset).toArray = ls at hl ⊢
  have hl : lv_has ls 2 [(0, .ref (hL 0)), (1, .int p1)] := hl
  have hr0 := TrL.rng hV hn
  have hc := TrL.c9 hV hn
  refine lv_aload_n hx hb dX10_boundMembers_0 rfl (lv_at hl 0 rfl) ?_
  refine lv_aload_n hx hb dX10_boundMembers_1 rfl (lv_at hl 0 rfl) ?_
  refine va_get (D := (dC, dI)) (ci := 10) (v := .ref dF_tree) (C := RX10) (T := TX10) (N := 20) hx hb hts iwsMX10_boundMembers_in10 hown hK hP 0 rfl rfl 2 (by decide) (hts (.fieldLink RX10 55 "OptimaWorks$Worker" "tree" "[I") (by decide +kernel)) (fun _ h9 => h9) rfl dX10_boundMembers_2 ?_
  refine lv_iload_n hx hb dX10_boundMembers_5 rfl (lv_at hl 1 rfl) ?_
  refine lv_iconst (v := 3) hx hb dX10_boundMembers_6 (by decide) ?_
  refine lv_iadd hx hb dX10_boundMembers_7 ?_
  refine lv_topi (fun y1 hy1 => ?_)
  obtain rfl : (iI (p1.toInt + 3)) = y1 := (hy1.trans (iI_add2 (iI_of _) (by decide : (3 : Int32) = iI 3))).symm
  refine va_iald (cA := kF 0) (n := nF_tree) (f := fF_tree) hx hb hK hP 11 10 rfl rfl (vp_iI (by omega) (by omega) (by omega)) dX10_boundMembers_8 ?_
  refine lv_topi (fun v2 hv2 => ?_)
  have b_v2 : v2.toInt = twL fF_tree (p1.toInt + 3) := by rw [hv2]; exact tw_i (by omega) (by omega)
  clear hv2
  refine lv_aload_n hx hb dX10_boundMembers_9 rfl (lv_at hl 0 rfl) ?_
  refine va_get (D := (dC, dI)) (ci := 10) (v := .ref dF_tree) (C := RX10) (T := TX10) (N := 20) hx hb hts iwsMX10_boundMembers_in10 hown hK hP 0 rfl rfl 2 (by decide) (hts (.fieldLink RX10 55 "OptimaWorks$Worker" "tree" "[I") (by decide +kernel)) (fun _ h9 => h9) rfl dX10_boundMembers_10 ?_
  refine lv_iload_n hx hb dX10_boundMembers_13 rfl (lv_at hl 1 rfl) ?_
  refine lv_iconst (v := 4) hx hb dX10_boundMembers_14 (by decide) ?_
  refine lv_iadd hx hb dX10_boundMembers_15 ?_
  refine lv_topi (fun y3 hy3 => ?_)
  obtain rfl : (iI (p1.toInt + 4)) = y3 := (hy3.trans (iI_add2 (iI_of _) (by decide : (4 : Int32) = iI 4))).symm
  refine va_iald (cA := kF 0) (n := nF_tree) (f := fF_tree) hx hb hK hP 11 10 rfl rfl (vp_iI (by omega) (by omega) (by omega)) dX10_boundMembers_16 ?_
  refine lv_topi (fun v4 hv4 => ?_)
  have b_v4 : v4.toInt = twL fF_tree (p1.toInt + 4) := by rw [hv4]; exact tw_i (by omega) (by omega)
  clear hv4
  have hPc : va_P (dC, dI) vwCl (WL hL aL kL hT hM (.ref dF_tree) iL_names gL_key fL_kind fL_one fL_two fL_base iL_params fL_paramOver dL_paramOver nL_params fL_paramUnder dL_paramUnder nL_pu gL_over gL_under fL_bound iL_nameAt iL_startAt iL_steps jL_scaleOver jL_scaleUnder) _ := hP.sub [0, 1, 2, 3, 4, 5, 6, 7, 8, 9, 10] rfl
  have hDc : va_D _ (WL hL aL kL hT hM (.ref dF_tree) iL_names gL_key fL_kind fL_one fL_two fL_base iL_params fL_paramOver dL_paramOver nL_params fL_paramUnder dL_paramUnder nL_pu gL_over gL_under fL_bound iL_nameAt iL_startAt iL_steps jL_scaleOver jL_scaleUnder) := hD.sub [0, 1, 2, 3, 4, 5, 6, 7, 8, 9, 10] (by decide) rfl
  have hKc : va_K (dC, dI) vwCl (tL kL) _ := hK.sub [0, 1, 2, 3, 4, 5, 6, 7, 8, 9] rfl
  have hFc := va_free (wc := WL hL aL kL hT hM (.ref dF_tree) iL_names gL_key fL_kind fL_one fL_two fL_base iL_params fL_paramOver dL_paramOver nL_params fL_paramUnder dL_paramUnder nL_pu gL_over gL_under fL_bound iL_nameAt iL_startAt iL_steps jL_scaleOver jL_scaleUnder) hD hS hA [0, 1, 2, 3, 4, 5, 6, 7, 8, 9, 10] rfl
  refine va_calli (va_runV (As := [.int v2, .int v4]) (rest := []) ⟨hx, hb, hml, hown, hts⟩ (m_X10_members l dC dI hL aL kL hT hM (.ref dF_tree) iL_names gL_key fL_kind fL_one fL_two fL_base iL_params fL_paramOver dL_paramOver nL_params fL_paramUnder dL_paramUnder nL_pu gL_over gL_under fL_bound iL_nameAt iL_startAt iL_steps jL_scaleOver jL_scaleUnder v2 v4 (b_iL_names) b_fL_kind b_fL_two b_fL_base (b_iL_params) (by first | exact b_nL_params | with_reducible assumption | exact ⟨by omega, by omega⟩ | assumption) (by first | with_reducible assumption | omega | (rw [iI_t (by omega) (by omega)]; omega) | assumption) (by first | with_reducible assumption | omega | (rw [iI_t (by omega) (by omega)]; omega) | assumption) (by first | with_reducible assumption | omega | (rw [iI_t (by omega) (by omega)]; omega) | assumption) (by rw [b_v2]; exact Or.inr hc.1) (by rw [b_v4]; exact hc.2.2.2.imp id And.left) s.heap.size) (cwV 2 hts gwsMX10_boundMembers_0 rfl rfl rfl hd_yX10_members_RX10 (by decide +kernel)) (fz_pre (va_recv hK hP (ci := 10) (q0 := 0) rfl rfl) hPc hKc hDc) rfl rfl hl.1 rfl (lv_room (Nat.le_of_ble_eq_true rfl)) dX10_boundMembers_17 (by decide +kernel)) hS (fun q _ h => hFc q h) hFc (fun r5 u t9_ H locs ht hvm hw9 hB9 hz1 hk1 hS => ?_)
  revert hw9
  refine fz_a2 ?_
  intro b_r5 f5_0
  obtain ⟨hP, hD⟩ := va_join (wr := [(dF_tree, .inl (kF 0, nF_tree, .inl fF_tree))]) (w1 := WL hL aL kL hT hM (.ref dF_tree) iL_names gL_key fL_kind fL_one fL_two fL_base iL_params fL_paramOver dL_paramOver nL_params fL_paramUnder dL_paramUnder nL_pu gL_over gL_under fL_bound iL_nameAt iL_startAt iL_steps jL_scaleOver jL_scaleUnder) hP hD [0, 1, 2, 3, 4, 5, 6, 7, 8, 9, 10] [11] rfl rfl (by decide) (by decide) hk1 hFc (fz_P ht hB9.1) hB9.2
  have hP : va_P (dC, dI) vwCl (WL hL aL kL hT hM (.ref dF_tree) iL_names gL_key fL_kind fL_one fL_two fL_base iL_params fL_paramOver dL_paramOver nL_params fL_paramUnder dL_paramUnder nL_pu gL_over gL_under fL_bound iL_nameAt iL_startAt iL_steps jL_scaleOver jL_scaleUnder ++ (WF hF aF kF dF_tree nF_tree fF_tree)) H := hP.sub [1, 2, 3, 4, 5, 6, 7, 8, 9, 10, 11, 0] rfl
  have hD : va_D A (WL hL aL kL hT hM (.ref dF_tree) iL_names gL_key fL_kind fL_one fL_two fL_base iL_params fL_paramOver dL_paramOver nL_params fL_paramUnder dL_paramUnder nL_pu gL_over gL_under fL_bound iL_nameAt iL_startAt iL_steps jL_scaleOver jL_scaleUnder ++ (WF hF aF kF dF_tree nF_tree fF_tree)) := hD.sub [1, 2, 3, 4, 5, 6, 7, 8, 9, 10, 11, 0] (by decide) rfl
  refine W.widen (k := 0) (n := 0) (by decide +kernel) (by decide +kernel) ?_
  exact W.iret (v := r5) hx hb hr (fun t9_ ht hW => ⟨⟨r5, (), rfl, (by first | exact b_r5 | with_reducible assumption | exact ⟨by omega, by omega⟩ | assumption), by rw [ht]; exact hP, hD⟩, hS.F ht⟩) hS.2.2 dX10_boundMembers_20
theorem dX10_bind_0 : decode cX10_bind 0 = .ok (.aload_n 0, 1) := dk_42 (by decide +kernel)
theorem dX10_bind_1 : decode cX10_bind 1 = .ok (.getfield 55, 3) := dk_180 (by decide +kernel)
theorem dX10_bind_4 : decode cX10_bind 4 = .ok (.iload_n 1, 1) := dk_27 (by decide +kernel)
theorem dX10_bind_5 : decode cX10_bind 5 = .ok (.iconst 3, 1) := dk_6 (by decide +kernel)
theorem dX10_bind_6 : decode cX10_bind 6 = .ok (.iadd, 1) := dk_96 (by decide +kernel)
theorem dX10_bind_7 : decode cX10_bind 7 = .ok (.iaload, 1) := dk_46 (by decide +kernel)
theorem dX10_bind_8 : decode cX10_bind 8 = .ok (.istore_n 3, 1) := dk_62 (by decide +kernel)
theorem dX10_bind_9 : decode cX10_bind 9 = .ok (.aload_n 0, 1) := dk_42 (by decide +kernel)
theorem dX10_bind_10 : decode cX10_bind 10 = .ok (.getfield 55, 3) := dk_180 (by decide +kernel)
theorem dX10_bind_13 : decode cX10_bind 13 = .ok (.iload_n 1, 1) := dk_27 (by decide +kernel)
theorem dX10_bind_14 : decode cX10_bind 14 = .ok (.iconst 4, 1) := dk_7 (by decide +kernel)
theorem dX10_bind_15 : decode cX10_bind 15 = .ok (.iadd, 1) := dk_96 (by decide +kernel)
theorem dX10_bind_16 : decode cX10_bind 16 = .ok (.iaload, 1) := dk_46 (by decide +kernel)
theorem dX10_bind_17 : decode cX10_bind 17 = .ok (.istore 4, 2) := dk_54 (by decide +kernel)
theorem dX10_bind_19 : decode cX10_bind 19 = .ok (.aload_n 0, 1) := dk_42 (by decide +kernel)
theorem dX10_bind_20 : decode cX10_bind 20 = .ok (.getfield 55, 3) := dk_180 (by decide +kernel)
theorem dX10_bind_23 : decode cX10_bind 23 = .ok (.iload_n 1, 1) := dk_27 (by decide +kernel)
theorem dX10_bind_24 : decode cX10_bind 24 = .ok (.iconst 5, 1) := dk_8 (by decide +kernel)
theorem dX10_bind_25 : decode cX10_bind 25 = .ok (.iadd, 1) := dk_96 (by decide +kernel)
theorem dX10_bind_26 : decode cX10_bind 26 = .ok (.iaload, 1) := dk_46 (by decide +kernel)
theorem dX10_bind_27 : decode cX10_bind 27 = .ok (.istore 5, 2) := dk_54 (by decide +kernel)
theorem dX10_bind_29 : decode cX10_bind 29 = .ok (.iload 4, 2) := dk_21 (by decide +kernel)
theorem dX10_bind_31 : decode cX10_bind 31 = .ok (.iconst (-1), 1) := dk_2 (by decide +kernel)
theorem dX10_bind_32 : decode cX10_bind 32 = .ok (.if_icmp .ne 7, 3) := dk_160 (by decide +kernel)
theorem dX10_bind_35 : decode cX10_bind 35 = .ok (.iconst 1, 1) := dk_4 (by decide +kernel)
theorem dX10_bind_36 : decode cX10_bind 36 = .ok (.goto 10, 3) := dk_167 (by decide +kernel)
theorem dX10_bind_39 : decode cX10_bind 39 = .ok (.aload_n 0, 1) := dk_42 (by decide +kernel)
theorem dX10_bind_40 : decode cX10_bind 40 = .ok (.getfield 24, 3) := dk_180 (by decide +kernel)
theorem dX10_bind_43 : decode cX10_bind 43 = .ok (.iload 4, 2) := dk_21 (by decide +kernel)
theorem dX10_bind_45 : decode cX10_bind 45 = .ok (.iaload, 1) := dk_46 (by decide +kernel)
theorem dX10_bind_46 : decode cX10_bind 46 = .ok (.istore 6, 2) := dk_54 (by decide +kernel)
theorem dX10_bind_48 : decode cX10_bind 48 = .ok (.aload_n 0, 1) := dk_42 (by decide +kernel)
theorem dX10_bind_49 : decode cX10_bind 49 = .ok (.getfield 44, 3) := dk_180 (by decide +kernel)
theorem dX10_bind_52 : decode cX10_bind 52 = .ok (.iload 5, 2) := dk_21 (by decide +kernel)
theorem dX10_bind_54 : decode cX10_bind 54 = .ok (.aload_n 0, 1) := dk_42 (by decide +kernel)
theorem dX10_bind_55 : decode cX10_bind 55 = .ok (.getfield 21, 3) := dk_180 (by decide +kernel)
theorem dX10_bind_58 : decode cX10_bind 58 = .ok (.iload_n 3, 1) := dk_29 (by decide +kernel)
theorem dX10_bind_59 : decode cX10_bind 59 = .ok (.iaload, 1) := dk_46 (by decide +kernel)
theorem dX10_bind_60 : decode cX10_bind 60 = .ok (.iload_n 2, 1) := dk_28 (by decide +kernel)
theorem dX10_bind_61 : decode cX10_bind 61 = .ok (.iload 6, 2) := dk_21 (by decide +kernel)
theorem dX10_bind_63 : decode cX10_bind 63 = .ok (.idiv, 1) := dk_108 (by decide +kernel)
theorem dX10_bind_64 : decode cX10_bind 64 = .ok (.iadd, 1) := dk_96 (by decide +kernel)
theorem dX10_bind_65 : decode cX10_bind 65 = .ok (.iastore, 1) := dk_79 (by decide +kernel)
theorem dX10_bind_66 : decode cX10_bind 66 = .ok (.iload 4, 2) := dk_21 (by decide +kernel)
theorem dX10_bind_68 : decode cX10_bind 68 = .ok (.iconst (-1), 1) := dk_2 (by decide +kernel)
theorem dX10_bind_69 : decode cX10_bind 69 = .ok (.if_icmp .eq 24, 3) := dk_159 (by decide +kernel)
theorem dX10_bind_72 : decode cX10_bind 72 = .ok (.aload_n 0, 1) := dk_42 (by decide +kernel)
theorem dX10_bind_73 : decode cX10_bind 73 = .ok (.getfield 44, 3) := dk_180 (by decide +kernel)
theorem dX10_bind_76 : decode cX10_bind 76 = .ok (.iload 5, 2) := dk_21 (by decide +kernel)
theorem dX10_bind_78 : decode cX10_bind 78 = .ok (.iconst 1, 1) := dk_4 (by decide +kernel)
theorem dX10_bind_79 : decode cX10_bind 79 = .ok (.iadd, 1) := dk_96 (by decide +kernel)
theorem dX10_bind_80 : decode cX10_bind 80 = .ok (.aload_n 0, 1) := dk_42 (by decide +kernel)
theorem dX10_bind_81 : decode cX10_bind 81 = .ok (.getfield 21, 3) := dk_180 (by decide +kernel)
theorem dX10_bind_84 : decode cX10_bind 84 = .ok (.iload 4, 2) := dk_21 (by decide +kernel)
theorem dX10_bind_86 : decode cX10_bind 86 = .ok (.iaload, 1) := dk_46 (by decide +kernel)
theorem dX10_bind_87 : decode cX10_bind 87 = .ok (.iload_n 2, 1) := dk_28 (by decide +kernel)
theorem dX10_bind_88 : decode cX10_bind 88 = .ok (.iload 6, 2) := dk_21 (by decide +kernel)
theorem dX10_bind_90 : decode cX10_bind 90 = .ok (.irem, 1) := dk_112 (by decide +kernel)
theorem dX10_bind_91 : decode cX10_bind 91 = .ok (.iadd, 1) := dk_96 (by decide +kernel)
theorem dX10_bind_92 : decode cX10_bind 92 = .ok (.iastore, 1) := dk_79 (by decide +kernel)
theorem dX10_bind_93 : decode cX10_bind 93 = .ok (.return_, 1) := dk_177 (by decide +kernel)
def wsMX10_bind : List Cond := .code yX10_bind cX10_bind 7 none :: ([.fieldLink RX10 55 "OptimaWorks$Worker" "tree" "[I", .fieldLink RX10 24 "OptimaWorks$Worker" "two" "[I", .fieldLink RX10 44 "OptimaWorks$Worker" "bound" "[I", .fieldLink RX10 21 "OptimaWorks$Worker" "one" "[I"] ++ wsX100)
theorem iwsMX10_bind_in10 : ∀ w ∈ wsX100, w ∈ wsMX10_bind := fun _ h => List.mem_cons_of_mem _ (List.mem_append_right _ h)
theorem gdwsMX10_bind : wsMX10_bind.all goodWord = true := gdC rfl (gdA (by decide +kernel : ([.fieldLink RX10 55 "OptimaWorks$Worker" "tree" "[I", .fieldLink RX10 24 "OptimaWorks$Worker" "two" "[I", .fieldLink RX10 44 "OptimaWorks$Worker" "bound" "[I", .fieldLink RX10 21 "OptimaWorks$Worker" "one" "[I"] : List Cond).all goodWord = true) gdwsX100)
set_option maxHeartbeats 4000000 in
set_option maxRecDepth 100000 in
/-- names are bound -/
theorem m_X10_bind (l : Launch) (dC : Nat → ClassId) (dI : Nat → Nat → Nat) (hL : Nat → Nat) (aL : Nat → Nat) (kL : Nat → ClassId) (hT : Nat → Nat) (hM : Nat → Nat) (iL_names : Int32) (gL_key : Nat → Int64) (fL_kind : Nat → Int32) (fL_one : Nat → Int32) (fL_two : Nat → Int32) (fL_base : Nat → Int32) (iL_params : Int32) (fL_paramOver : Nat → Int32) (dL_paramOver : Nat) (nL_params : Nat) (fL_paramUnder : Nat → Int32) (dL_paramUnder : Nat) (nL_pu : Nat) (gL_over : Nat → Int64) (gL_under : Nat → Int64) (fL_bound : Nat → Int32) (iL_nameAt : Int32) (iL_startAt : Int32) (iL_steps : Int32) (jL_scaleOver : Int64) (jL_scaleUnder : Int64) (hF : Nat → Nat) (aF : Nat → Nat) (kF : Nat → ClassId) (dF_tree : Nat) (nF_tree : Nat) (fF_tree : Nat → Int32) (V : Int → Nat → Nat → Prop) (lo : Int) (lv : Nat) (p1 : Int32) (p2 : Int32) (b_iL_names : 0 ≤ iL_names.toInt ∧ iL_names.toInt ≤ 40) (b_fL_kind : ∀ q : Nat, 0 ≤ (fL_kind q).toInt ∧ (fL_kind q).toInt ≤ 5) (b_fL_two : ∀ q : Nat, (-1) ≤ (fL_two q).toInt ∧ (fL_two q).toInt ≤ 39) (b_fL_base : ∀ q : Nat, 0 ≤ (fL_base q).toInt ∧ (fL_base q).toInt ≤ 2560) (b_iL_params : 0 ≤ iL_params.toInt ∧ iL_params.toInt ≤ 2560) (b_nL_params : 0 ≤ nL_params ∧ nL_params ≤ 2560) (b_nm : NmL iL_names fL_kind fL_one fL_two fL_base nL_params) (b_pm : iL_params.toInt ≤ ((nL_params : Nat) : Int)) (b_pu : nL_pu = nL_params) (b_nF_tree : 7 ≤ nF_tree ∧ nF_tree ≤ 72200) (b_p2 : 0 ≤ p2.toInt ∧ p2.toInt ≤ 144) (hV : TrL V fF_tree fL_kind fL_one fL_two iL_names.toInt lo ((nF_tree : Nat) : Int)) (hn : V p1.toInt 9 lv) (sz : Nat) : Met l yX10_bind wsMX10_bind ({ frames := 0, cells := 0, slots := 0, locals := 0 }) (va_Pc [.ref (hL 0), .int p1, .int p2] (fun U => U.heap.size = sz ∧ va_P (dC, dI) vwCl (WL hL aL kL hT hM (.ref dF_tree) iL_names gL_key fL_kind fL_one fL_two fL_base iL_params fL_paramOver dL_paramOver nL_params fL_paramUnder dL_paramUnder nL_pu gL_over gL_under fL_bound iL_nameAt iL_startAt iL_steps jL_scaleOver jL_scaleUnder ++ (WF hF aF kF dF_tree nF_tree fF_tree)) U.heap ∧ va_K (dC, dI) vwCl (tL kL ++ (tF kF)) U ∧ va_D (fun _ => True) (WL hL aL kL hT hM (.ref dF_tree) iL_names gL_key fL_kind fL_one fL_two fL_base iL_params fL_paramOver dL_paramOver nL_params fL_paramUnder dL_paramUnder nL_pu gL_over gL_under fL_bound iL_nameAt iL_startAt iL_steps jL_scaleOver jL_scaleUnder ++ (WF hF aF kF dF_tree nF_tree fF_tree)))) (va_Qv (fun (u : Nat → Int32) => True) (fun (u : Nat → Int32) t => va_P (dC, dI) vwCl (WL hL aL kL hT hM (.ref dF_tree) iL_names gL_key fL_kind fL_one fL_two fL_base iL_params fL_paramOver dL_paramOver nL_params fL_paramUnder dL_paramUnder nL_pu gL_over gL_under u iL_nameAt iL_startAt iL_steps jL_scaleOver jL_scaleUnder ++ (WF hF aF kF dF_tree nF_tree fF_tree)) t.heap ∧ va_D (va_A (WL hL aL kL hT hM (.ref dF_tree) iL_names gL_key fL_kind fL_one fL_two fL_base iL_params fL_paramOver dL_paramOver nL_params fL_paramUnder dL_paramUnder nL_pu gL_over gL_under fL_bound iL_nameAt iL_startAt iL_steps jL_scaleOver jL_scaleUnder ++ (WF hF aF kF dF_tree nF_tree fF_tree)) sz) (WL hL aL kL hT hM (.ref dF_tree) iL_names gL_key fL_kind fL_one fL_two fL_base iL_params fL_paramOver dL_paramOver nL_params fL_paramUnder dL_paramUnder nL_pu gL_over gL_under u iL_nameAt iL_startAt iL_steps jL_scaleOver jL_scaleUnder ++ (WF hF aF kF dF_tree nF_tree fF_tree))) (va_A (WL hL aL kL hT hM (.ref dF_tree) iL_names gL_key fL_kind fL_one fL_two fL_base iL_params fL_paramOver dL_paramOver nL_params fL_paramUnder dL_paramUnder nL_pu gL_over gL_under fL_bound iL_nameAt iL_startAt iL_steps jL_scaleOver jL_scaleUnder ++ (WF hF aF kF dF_tree nF_tree fF_tree)) sz)) 0 0 (va_A (WL hL aL kL hT hM (.ref dF_tree) iL_names gL_key fL_kind fL_one fL_two fL_base iL_params fL_paramOver dL_paramOver nL_params fL_paramUnder dL_paramUnder nL_pu gL_over gL_under fL_bound iL_nameAt iL_startAt iL_steps jL_scaleOver jL_scaleUnder ++ (WF hF aF kF dF_tree nF_tree fF_tree)) sz) := by
  refine Met.ofW (cc := cX10_bind) (maxL := 7) (ret := none) (by decide) rfl ?_
  intro p e s m args below meth c s₁ B hml hv
  obtain ⟨rfl, hsz, hP, hK, hD0⟩ := hv
  have hx := B.exec
  have hb := B.bytes
  have hr := B.returns
  have hts := atoms_spec (ws := wsMX10_bind) B.pre
  have hown : s.vm.findClass RX10 = some m.cls := findClass_of_methodNamed B.named
  have hlocks := B.notSynchronized
  subst hsz
  have hD := hD0.self (sz := s.heap.size)
  generalize hAe : va_A (WL hL aL kL hT hM (.ref dF_tree) iL_names gL_key fL_kind fL_one fL_two fL_base iL_params fL_paramOver dL_paramOver nL_params fL_paramUnder dL_paramUnder nL_pu gL_over gL_under fL_bound iL_nameAt iL_startAt iL_steps jL_scaleOver jL_scaleUnder ++ (WF hF aF kF dF_tree nF_tree fF_tree)) s.heap.size = A at hD ⊢
  have hA : ∀ q : Nat, s.heap.size ≤ q → A q := fun q h => by rw [← hAe]; exact Or.inr h
  have hS : va_S A s.heap s.heap [] := va_S.rf
  have hl := lv_entry ([.ref (hL 0), .int p1, .int p2]) (n := 7) (Nat.le_of_ble_eq_true rfl)
  rw [lg_entry_eq]
  generalize (lg_sl ([.ref (hL 0), .int p1, .int p2]) ++ List.replicate (7 - (lg_sl ([.ref (hL 0), .int p1, .int p2])).length) Slot.unset).toArray = ls at hl ⊢
  have hl : lv_has ls 7 [(0, .ref (hL 0)), (1, .int p1), (2, .int p2)] := hl
  have hr0 := TrL.rng hV hn
  have hc := TrL.c9 hV hn
  have hs1 := hc.1.r
  have hs2 : ¬ twL fF_tree (p1.toInt + 4) = -1 → (0 ≤ twL fF_tree (p1.toInt + 4) ∧ twL fF_tree (p1.toInt + 4) < iL_names.toInt) ∧ (1 ≤ twL fL_two (twL fF_tree (p1.toInt + 4)) ∧ twL fL_two (twL fF_tree (p1.toInt + 4)) ≤ 12) ∧ twL fF_tree (p1.toInt + 5) ≤ 62 := fun h9 => ⟨(hc.2.2.2.resolve_left h9).1.r, (hc.2.2.2.resolve_left h9).1.w, (hc.2.2.2.resolve_left h9).2⟩
  refine lv_aload_n hx hb dX10_bind_0 rfl (lv_at hl 0 rfl) ?_
  refine va_get (D := (dC, dI)) (ci := 10) (v := .ref dF_tree) (C := RX10) (T := TX10) (N := 20) hx hb hts iwsMX10_bind_in10 hown hK hP 0 rfl rfl 2 (by decide) (hts (.fieldLink RX10 55 "OptimaWorks$Worker" "tree" "[I") (by decide +kernel)) (fun _ h9 => h9) rfl dX10_bind_1 ?_
  refine lv_iload_n hx hb dX10_bind_4 rfl (lv_at hl 1 rfl) ?_
  refine lv_iconst (v := 3) hx hb dX10_bind_5 (by decide) ?_
  refine lv_iadd hx hb dX10_bind_6 ?_
  refine lv_topi (fun y1 hy1 => ?_)
  obtain rfl : (iI (p1.toInt + 3)) = y1 := (hy1.trans (iI_add2 (iI_of _) (by decide : (3 : Int32) = iI 3))).symm
  refine va_iald (cA := kF 0) (n := nF_tree) (f := fF_tree) hx hb hK hP 11 10 rfl rfl (vp_iI (by omega) (by omega) (by omega)) dX10_bind_7 ?_
  refine lv_topi (fun v2 hv2 => ?_)
  have b_v2 : v2.toInt = twL fF_tree (p1.toInt + 3) := by rw [hv2]; exact tw_i (by omega) (by omega)
  clear hv2
  refine lv_istore_n hx hb dX10_bind_8 rfl hl (by decide) rfl (fun ls (hl : lv_has ls _ ([(3, .int v2), (0, .ref (hL 0)), (1, .int p1), (2, .int p2)])) => ?_)
  refine lv_aload_n hx hb dX10_bind_9 rfl (lv_at hl 1 rfl) ?_
  refine va_get (D := (dC, dI)) (ci := 10) (v := .ref dF_tree) (C := RX10) (T := TX10) (N := 20) hx hb hts iwsMX10_bind_in10 hown hK hP 0 rfl rfl 2 (by decide) (hts (.fieldLink RX10 55 "OptimaWorks$Worker" "tree" "[I") (by decide +kernel)) (fun _ h9 => h9) rfl dX10_bind_10 ?_
  refine lv_iload_n hx hb dX10_bind_13 rfl (lv_at hl 2 rfl) ?_
  refine lv_iconst (v := 4) hx hb dX10_bind_14 (by decide) ?_
  refine lv_iadd hx hb dX10_bind_15 ?_
  refine lv_topi (fun y3 hy3 => ?_)
  obtain rfl : (iI (p1.toInt + 4)) = y3 := (hy3.trans (iI_add2 (iI_of _) (by decide : (4 : Int32) = iI 4))).symm
  refine va_iald (cA := kF 0) (n := nF_tree) (f := fF_tree) hx hb hK hP 11 10 rfl rfl (vp_iI (by omega) (by omega) (by omega)) dX10_bind_16 ?_
  refine lv_topi (fun v4 hv4 => ?_)
  have b_v4 : v4.toInt = twL fF_tree (p1.toInt + 4) := by rw [hv4]; exact tw_i (by omega) (by omega)
  clear hv4
  refine lv_istore hx hb dX10_bind_17 hl (by decide) rfl (fun ls (hl : lv_has ls _ ([(4, .int v4), (3, .int v2), (0, .ref (hL 0)), (1, .int p1), (2, .int p2)])) => ?_)
  refine lv_aload_n hx hb dX10_bind_19 rfl (lv_at hl 2 rfl) ?_
  refine va_get (D := (dC, dI)) (ci := 10) (v := .ref dF_tree) (C := RX10) (T := TX10) (N := 20) hx hb hts iwsMX10_bind_in10 hown hK hP 0 rfl rfl 2 (by decide) (hts (.fieldLink RX10 55 "OptimaWorks$Worker" "tree" "[I") (by decide +kernel)) (fun _ h9 => h9) rfl dX10_bind_20 ?_
  refine lv_iload_n hx hb dX10_bind_23 rfl (lv_at hl 3 rfl) ?_
  refine lv_iconst (v := 5) hx hb dX10_bind_24 (by decide) ?_
  refine lv_iadd hx hb dX10_bind_25 ?_
  refine lv_topi (fun y5 hy5 => ?_)
  obtain rfl : (iI (p1.toInt + 5)) = y5 := (hy5.trans (iI_add2 (iI_of _) (by decide : (5 : Int32) = iI 5))).symm
  refine va_iald (cA := kF 0) (n := nF_tree) (f := fF_tree) hx hb hK hP 11 10 rfl rfl (vp_iI (by omega) (by omega) (by omega)) dX10_bind_26 ?_
  refine lv_topi (fun v6 hv6 => ?_)
  have b_v6 : v6.toInt = twL fF_tree (p1.toInt + 5) := by rw [hv6]; exact tw_i (by omega) (by omega)
  clear hv6
  refine lv_istore hx hb dX10_bind_27 hl (by decide) rfl (fun ls (hl : lv_has ls _ ([(5, .int v6), (4, .int v4), (3, .int v2), (0, .ref (hL 0)), (1, .int p1), (2, .int p2)])) => ?_)
  refine lv_iload hx hb dX10_bind_29 (lv_at hl 1 rfl) ?_
  refine lv_iconst (v := (-1)) hx hb dX10_bind_31 (by decide) ?_
  refine W.cut (pc := 46) (fun H locs ls stk => ∃ (k0_j3 : Int32), (1 ≤ k0_j3.toInt ∧ k0_j3.toInt ≤ 12) ∧  stk = [.int k0_j3] ∧ va_P (dC, dI) vwCl (WL hL aL kL hT hM (.ref dF_tree) iL_names gL_key fL_kind fL_one fL_two fL_base iL_params fL_paramOver dL_paramOver nL_params fL_paramUnder dL_paramUnder nL_pu gL_over gL_under fL_bound iL_nameAt iL_startAt iL_steps jL_scaleOver jL_scaleUnder ++ (WF hF aF kF dF_tree nF_tree fF_tree)) H ∧ va_D A (WL hL aL kL hT hM (.ref dF_tree) iL_names gL_key fL_kind fL_one fL_two fL_base iL_params fL_paramOver dL_paramOver nL_params fL_paramUnder dL_paramUnder nL_pu gL_over gL_under fL_bound iL_nameAt iL_startAt iL_steps jL_scaleOver jL_scaleUnder ++ (WF hF aF kF dF_tree nF_tree fF_tree)) ∧ va_S A s.heap H locs ∧ lv_has ls 7 [(5, .int v6), (4, .int v4), (3, .int v2), (0, .ref (hL 0)), (1, .int p1), (2, .int p2)]) (fun join3 => ?_) ?_
  · refine lv_icmp_ne (tgt := 39) hx hb dX10_bind_32 (by decide) (fun c_32 => ?_) (fun c_32 => ?_)
    · have t_32 : v4.toInt ≠ (-1) := toI_ne c_32 rfl (by decide : ((-1) : Int32).toInt = (-1))
      refine lv_aload_n hx hb dX10_bind_39 rfl (lv_at hl 3 rfl) ?_
      refine va_get (D := (dC, dI)) (ci := 10) (v := .ref (aL 3)) (C := RX10) (T := TX10) (N := 20) hx hb hts iwsMX10_bind_in10 hown hK hP 0 rfl rfl 7 (by decide) (hts (.fieldLink RX10 24 "OptimaWorks$Worker" "two" "[I") (by decide +kernel)) (fun _ h9 => h9) rfl dX10_bind_40 ?_
      rw [← b_v4] at hs2
      refine lv_iload hx hb dX10_bind_43 (lv_at hl 1 rfl) ?_
      refine va_iald (cA := kL 3) (n := 40) (f := fL_two) hx hb hK hP 4 3 rfl rfl (vp_in_iff.mpr ⟨(by omega), (by omega)⟩) dX10_bind_45 ?_
      refine lv_topi (fun v8 hv8 => ?_)
      have b_v8 : (-1) ≤ v8.toInt ∧ v8.toInt ≤ 39 := by rw [hv8]; exact b_fL_two _
      have b1_v8 : v8.toInt = twL fL_two v4.toInt := by rw [hv8]; exact tw_r
      clear hv8
      have hl : lv_has _ _ ([(5, .int v6), (4, .int v4), (3, .int v2), (0, .ref (hL 0)), (1, .int p1), (2, .int p2)]) := lv_sub hl [0, 1, 2, 3, 4, 5] rfl
      exact join3 _ _ _ _ ⟨v8, (by first | exact b_v8 | with_reducible assumption | exact ⟨by omega, by omega⟩ | assumption), rfl, hP, hD, hS, hl⟩
    · have t_32 : v4.toInt = (-1) := toI_nne c_32 rfl (by decide : ((-1) : Int32).toInt = (-1))
      refine lv_iconst (v := 1) hx hb dX10_bind_35 (by decide) ?_
      refine lv_goto (tgt := 46) hx hb dX10_bind_36 (by decide) ?_
      have hl : lv_has _ _ ([(5, .int v6), (4, .int v4), (3, .int v2), (0, .ref (hL 0)), (1, .int p1), (2, .int p2)]) := lv_sub hl [0, 1, 2, 3, 4, 5] rfl
      exact join3 _ _ _ _ ⟨1, (show 1 ≤ (1 : Int32).toInt ∧ (1 : Int32).toInt ≤ 12 from by decide), rfl, hP, hD, hS, hl⟩
  · rintro H locs ls stk ⟨k0_j3, b_k0_j3, rfl, hP, hD, hS, hl⟩
    refine lv_istore hx hb dX10_bind_46 hl (by decide) rfl (fun ls (hl : lv_has ls _ ([(6, .int k0_j3), (5, .int v6), (4, .int v4), (3, .int v2), (0, .ref (hL 0)), (1, .int p1), (2, .int p2)])) => ?_)
    refine lv_aload_n hx hb dX10_bind_48 rfl (lv_at hl 4 rfl) ?_
    refine va_get (D := (dC, dI)) (ci := 10) (v := .ref (aL 9)) (C := RX10) (T := TX10) (N := 20) hx hb hts iwsMX10_bind_in10 hown hK hP 0 rfl rfl 14 (by decide) (hts (.fieldLink RX10 44 "OptimaWorks$Worker" "bound" "[I") (by decide +kernel)) (fun _ h9 => h9) rfl dX10_bind_49 ?_
    refine lv_iload hx hb dX10_bind_52 (lv_at hl 1 rfl) ?_
    refine lv_aload_n hx hb dX10_bind_54 rfl (lv_at hl 4 rfl) ?_
    refine va_get (D := (dC, dI)) (ci := 10) (v := .ref (aL 2)) (C := RX10) (T := TX10) (N := 20) hx hb hts iwsMX10_bind_in10 hown hK hP 0 rfl rfl 6 (by decide) (hts (.fieldLink RX10 21 "OptimaWorks$Worker" "one" "[I") (by decide +kernel)) (fun _ h9 => h9) rfl dX10_bind_55 ?_
    refine lv_iload_n hx hb dX10_bind_58 rfl (lv_at hl 3 rfl) ?_
    refine va_iald (cA := kL 2) (n := 40) (f := fL_one) hx hb hK hP 3 2 rfl rfl (vp_in_iff.mpr ⟨(by omega), (by omega)⟩) dX10_bind_59 ?_
    refine lv_topi (fun v9 hv9 => ?_)
    have b_v9 : v9.toInt = twL fL_one v2.toInt := by rw [hv9]; exact tw_r
    clear hv9
    refine lv_iload_n hx hb dX10_bind_60 rfl (lv_at hl 6 rfl) ?_
    refine lv_iload hx hb dX10_bind_61 (lv_at hl 0 rfl) ?_
    refine lv_idiv hx hb dX10_bind_63 (nz_i (x := k0_j3) rfl (by omega)) ?_
    refine lv_topi (fun v10 hv10 => ?_)
    clear hv10
    refine lv_iadd hx hb dX10_bind_64 ?_
    refine lv_topi (fun y11 hy11 => ?_)
    obtain rfl : (iI (v9.toInt + v10.toInt)) = y11 := (hy11.trans (iI_add2 (iI_of _) (iI_of _))).symm
    refine va_iast (cA := kL 9) (n := 64) (f := fL_bound) hx hb hK hP hD hS 10 9 rfl rfl (vp_in_iff.mpr ⟨(by omega), (by omega)⟩) dX10_bind_65 (fun H locs hP hD hS => ?_)
    obtain ⟨u12, hu12⟩ : ∃ f9, f9 = upd fL_bound (v6).toNatClampNeg (iI (v9.toInt + v10.toInt)) := ⟨_, rfl⟩
    have hP : va_P (dC, dI) vwCl (WL hL aL kL hT hM (.ref dF_tree) iL_names gL_key fL_kind fL_one fL_two fL_base iL_params fL_paramOver dL_paramOver nL_params fL_paramUnder dL_paramUnder nL_pu gL_over gL_under u12 iL_nameAt iL_startAt iL_steps jL_scaleOver jL_scaleUnder ++ (WF hF aF kF dF_tree nF_tree fF_tree)) H := by rw [hu12]; exact hP
    have hD : va_D A (WL hL aL kL hT hM (.ref dF_tree) iL_names gL_key fL_kind fL_one fL_two fL_base iL_params fL_paramOver dL_paramOver nL_params fL_paramUnder dL_paramUnder nL_pu gL_over gL_under u12 iL_nameAt iL_startAt iL_steps jL_scaleOver jL_scaleUnder ++ (WF hF aF kF dF_tree nF_tree fF_tree)) := by rw [hu12]; exact hD
    clear hu12
    refine lv_iload hx hb dX10_bind_66 (lv_at hl 2 rfl) ?_
    refine lv_iconst (v := (-1)) hx hb dX10_bind_68 (by decide) ?_
    refine W.cut (pc := 93) (fun H locs ls stk => ∃ (fL_bound_j4 : Nat → Int32),  stk = [] ∧ va_P (dC, dI) vwCl (WL hL aL kL hT hM (.ref dF_tree) iL_names gL_key fL_kind fL_one fL_two fL_base iL_params fL_paramOver dL_paramOver nL_params fL_paramUnder dL_paramUnder nL_pu gL_over gL_under fL_bound_j4 iL_nameAt iL_startAt iL_steps jL_scaleOver jL_scaleUnder ++ (WF hF aF kF dF_tree nF_tree fF_tree)) H ∧ va_D A (WL hL aL kL hT hM (.ref dF_tree) iL_names gL_key fL_kind fL_one fL_two fL_base iL_params fL_paramOver dL_paramOver nL_params fL_paramUnder dL_paramUnder nL_pu gL_over gL_under fL_bound_j4 iL_nameAt iL_startAt iL_steps jL_scaleOver jL_scaleUnder ++ (WF hF aF kF dF_tree nF_tree fF_tree)) ∧ va_S A s.heap H locs ∧ lv_has ls 7 [(6, .int k0_j3), (5, .int v6), (4, .int v4), (3, .int v2), (0, .ref (hL 0)), (1, .int p1), (2, .int p2)]) (fun join4 => ?_) ?_
    · refine lv_icmp_eq (tgt := 93) hx hb dX10_bind_69 (by decide) (fun c_69 => ?_) (fun c_69 => ?_)
      · have t_69 : v4.toInt = (-1) := toI_eq c_69 rfl (by decide : ((-1) : Int32).toInt = (-1))
        have hl : lv_has _ _ ([(6, .int k0_j3), (5, .int v6), (4, .int v4), (3, .int v2), (0, .ref (hL 0)), (1, .int p1), (2, .int p2)]) := lv_sub hl [0, 1, 2, 3, 4, 5, 6] rfl
        exact join4 _ _ _ _ ⟨u12, rfl, hP, hD, hS, hl⟩
      · have t_69 : ¬ v4.toInt = (-1) := toI_neq c_69 rfl (by decide : ((-1) : Int32).toInt = (-1))
        refine lv_aload_n hx hb dX10_bind_72 rfl (lv_at hl 4 rfl) ?_
        refine va_get (D := (dC, dI)) (ci := 10) (v := .ref (aL 9)) (C := RX10) (T := TX10) (N := 20) hx hb hts iwsMX10_bind_in10 hown hK hP 0 rfl rfl 14 (by decide) (hts (.fieldLink RX10 44 "OptimaWorks$Worker" "bound" "[I") (by decide +kernel)) (fun _ h9 => h9) rfl dX10_bind_73 ?_
        refine lv_iload hx hb dX10_bind_76 (lv_at hl 1 rfl) ?_
        refine lv_iconst (v := 1) hx hb dX10_bind_78 (by decide) ?_
        refine lv_iadd hx hb dX10_bind_79 ?_
        refine lv_topi (fun y18 hy18 => ?_)
        obtain rfl : (iI (v6.toInt + 1)) = y18 := (hy18.trans (iI_add2 (iI_of _) (by decide : (1 : Int32) = iI 1))).symm
        refine lv_aload_n hx hb dX10_bind_80 rfl (lv_at hl 4 rfl) ?_
        refine va_get (D := (dC, dI)) (ci := 10) (v := .ref (aL 2)) (C := RX10) (T := TX10) (N := 20) hx hb hts iwsMX10_bind_in10 hown hK hP 0 rfl rfl 6 (by decide) (hts (.fieldLink RX10 21 "OptimaWorks$Worker" "one" "[I") (by decide +kernel)) (fun _ h9 => h9) rfl dX10_bind_81 ?_
        refine lv_iload hx hb dX10_bind_84 (lv_at hl 2 rfl) ?_
        refine va_iald (cA := kL 2) (n := 40) (f := fL_one) hx hb hK hP 3 2 rfl rfl (vp_in_iff.mpr ⟨(by omega), (by omega)⟩) dX10_bind_86 ?_
        refine lv_topi (fun v19 hv19 => ?_)
        have b_v19 : v19.toInt = twL fL_one v4.toInt := by rw [hv19]; exact tw_r
        clear hv19
        refine lv_iload_n hx hb dX10_bind_87 rfl (lv_at hl 6 rfl) ?_
        refine lv_iload hx hb dX10_bind_88 (lv_at hl 0 rfl) ?_
        refine lv_irem hx hb dX10_bind_90 (nz_i (x := k0_j3) rfl (by omega)) ?_
        refine lv_topi (fun v20 hv20 => ?_)
        clear hv20
        refine lv_iadd hx hb dX10_bind_91 ?_
        refine lv_topi (fun y21 hy21 => ?_)
        obtain rfl : (iI (v19.toInt + v20.toInt)) = y21 := (hy21.trans (iI_add2 (iI_of _) (iI_of _))).symm
        refine va_iast (cA := kL 9) (n := 64) (f := u12) hx hb hK hP hD hS 10 9 rfl rfl (vp_iI (by omega) (by omega) (by decide)) dX10_bind_92 (fun H locs hP hD hS => ?_)
        obtain ⟨u22, hu22⟩ : ∃ f9, f9 = upd u12 ((iI (v6.toInt + 1))).toNatClampNeg (iI (v19.toInt + v20.toInt)) := ⟨_, rfl⟩
        have hP : va_P (dC, dI) vwCl (WL hL aL kL hT hM (.ref dF_tree) iL_names gL_key fL_kind fL_one fL_two fL_base iL_params fL_paramOver dL_paramOver nL_params fL_paramUnder dL_paramUnder nL_pu gL_over gL_under u22 iL_nameAt iL_startAt iL_steps jL_scaleOver jL_scaleUnder ++ (WF hF aF kF dF_tree nF_tree fF_tree)) H := by rw [hu22]; exact hP
        have hD : va_D A (WL hL aL kL hT hM (.ref dF_tree) iL_names gL_key fL_kind fL_one fL_two fL_base iL_params fL_paramOver dL_paramOver nL_params fL_paramUnder dL_paramUnder nL_pu gL_over gL_under u22 iL_nameAt iL_startAt iL_steps jL_scaleOver jL_scaleUnder ++ (WF hF aF kF dF_tree nF_tree fF_tree)) := by rw [hu22]; exact hD
        clear hu22
        have hl : lv_has _ _ ([(6, .int k0_j3), (5, .int v6), (4, .int v4), (3, .int v2), (0, .ref (hL 0)), (1, .int p1), (2, .int p2)]) := lv_sub hl [0, 1, 2, 3, 4, 5, 6] rfl
        exact join4 _ _ _ _ ⟨u22, rfl, hP, hD, hS, hl⟩
    · rintro H locs ls stk ⟨fL_bound_j4, rfl, hP, hD, hS, hl⟩
      refine W.widen (k := 0) (n := 0) (by decide +kernel) (by decide +kernel) ?_
      exact W.vret hx hb hr (fun t9_ ht hW => ⟨⟨fL_bound_j4, rfl, trivial, by rw [ht]; exact hP, hD⟩, hS.F ht⟩) hS.2.2 dX10_bind_93

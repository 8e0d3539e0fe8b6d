section
theorem hd_yX12_scope_RX12 : yX12_scope.cls = RX12 ∧ yX12_scope.cls ≠ "java/lang/invoke/MethodHandle" ∧ yX12_scope.cls ≠ "java/lang/invoke/VarHandle" ∧ (parseMethodDescriptor yX12_scope.desc).map (fun d => d.parameters.length) = some 1 := by decide +kernel
theorem hd_yX12_canDiffer_RX12 : yX12_canDiffer.cls = RX12 ∧ yX12_canDiffer.cls ≠ "java/lang/invoke/MethodHandle" ∧ yX12_canDiffer.cls ≠ "java/lang/invoke/VarHandle" ∧ (parseMethodDescriptor yX12_canDiffer.desc).map (fun d => d.parameters.length) = some 1 := by decide +kernel
theorem hd_yX12_canOrder_RX12 : yX12_canOrder.cls = RX12 ∧ yX12_canOrder.cls ≠ "java/lang/invoke/MethodHandle" ∧ yX12_canOrder.cls ≠ "java/lang/invoke/VarHandle" ∧ (parseMethodDescriptor yX12_canOrder.desc).map (fun d => d.parameters.length) = some 3 := by decide +kernel
theorem hd_yX12_canSum_RX12 : yX12_canSum.cls = RX12 ∧ yX12_canSum.cls ≠ "java/lang/invoke/MethodHandle" ∧ yX12_canSum.cls ≠ "java/lang/invoke/VarHandle" ∧ (parseMethodDescriptor yX12_canSum.desc).map (fun d => d.parameters.length) = some 3 := by decide +kernel
theorem hd_yX12_must_RX12 : yX12_must.cls = RX12 ∧ yX12_must.cls ≠ "java/lang/invoke/MethodHandle" ∧ yX12_must.cls ≠ "java/lang/invoke/VarHandle" ∧ (parseMethodDescriptor yX12_must.desc).map (fun d => d.parameters.length) = some 2 := by decide +kernel
theorem hd_yX12_canPair_RX12 : yX12_canPair.cls = RX12 ∧ yX12_canPair.cls ≠ "java/lang/invoke/MethodHandle" ∧ yX12_canPair.cls ≠ "java/lang/invoke/VarHandle" ∧ (parseMethodDescriptor yX12_canPair.desc).map (fun d => d.parameters.length) = some 1 := by decide +kernel
theorem hd_yX12_canHold_RX12 : yX12_canHold.cls = RX12 ∧ yX12_canHold.cls ≠ "java/lang/invoke/MethodHandle" ∧ yX12_canHold.cls ≠ "java/lang/invoke/VarHandle" ∧ (parseMethodDescriptor yX12_canHold.desc).map (fun d => d.parameters.length) = some 1 := by decide +kernel
theorem hd_yX12_supports_RX12 : yX12_supports.cls = RX12 ∧ yX12_supports.cls ≠ "java/lang/invoke/MethodHandle" ∧ yX12_supports.cls ≠ "java/lang/invoke/VarHandle" ∧ (parseMethodDescriptor yX12_supports.desc).map (fun d => d.parameters.length) = some 3 := by decide +kernel
theorem hd_yX12_leave_RX12 : yX12_leave.cls = RX12 ∧ yX12_leave.cls ≠ "java/lang/invoke/MethodHandle" ∧ yX12_leave.cls ≠ "java/lang/invoke/VarHandle" ∧ (parseMethodDescriptor yX12_leave.desc).map (fun d => d.parameters.length) = some 0 := by decide +kernel
theorem hd_yX12_leaveAll_RX12 : yX12_leaveAll.cls = RX12 ∧ yX12_leaveAll.cls ≠ "java/lang/invoke/MethodHandle" ∧ yX12_leaveAll.cls ≠ "java/lang/invoke/VarHandle" ∧ (parseMethodDescriptor yX12_leaveAll.desc).map (fun d => d.parameters.length) = some 0 := by decide +kernel
theorem dX12_scope_0 : decode cX12_scope 0 = .ok (.aload_n 0, 1) := dk_42 (by decide +kernel)
theorem dX12_scope_1 : decode cX12_scope 1 = .ok (.getfield 263, 3) := dk_180 (by decide +kernel)
theorem dX12_scope_4 : decode cX12_scope 4 = .ok (.iload_n 1, 1) := dk_27 (by decide +kernel)
theorem dX12_scope_5 : decode cX12_scope 5 = .ok (.iaload, 1) := dk_46 (by decide +kernel)
theorem dX12_scope_6 : decode cX12_scope 6 = .ok (.istore_n 2, 1) := dk_61 (by decide +kernel)
theorem dX12_scope_7 : decode cX12_scope 7 = .ok (.iload_n 2, 1) := dk_28 (by decide +kernel)
theorem dX12_scope_8 : decode cX12_scope 8 = .ok (.iconst 1, 1) := dk_4 (by decide +kernel)
theorem dX12_scope_9 : decode cX12_scope 9 = .ok (.if_icmp .ne 23, 3) := dk_160 (by decide +kernel)
theorem dX12_scope_12 : decode cX12_scope 12 = .ok (.iconst 1, 1) := dk_4 (by decide +kernel)
theorem dX12_scope_13 : decode cX12_scope 13 = .ok (.aload_n 0, 1) := dk_42 (by decide +kernel)
theorem dX12_scope_14 : decode cX12_scope 14 = .ok (.getfield 266, 3) := dk_180 (by decide +kernel)
theorem dX12_scope_17 : decode cX12_scope 17 = .ok (.iload_n 1, 1) := dk_27 (by decide +kernel)
theorem dX12_scope_18 : decode cX12_scope 18 = .ok (.iaload, 1) := dk_46 (by decide +kernel)
theorem dX12_scope_19 : decode cX12_scope 19 = .ok (.ishl, 1) := dk_120 (by decide +kernel)
theorem dX12_scope_20 : decode cX12_scope 20 = .ok (.iconst 1, 1) := dk_4 (by decide +kernel)
theorem dX12_scope_21 : decode cX12_scope 21 = .ok (.aload_n 0, 1) := dk_42 (by decide +kernel)
theorem dX12_scope_22 : decode cX12_scope 22 = .ok (.getfield 272, 3) := dk_180 (by decide +kernel)
theorem dX12_scope_25 : decode cX12_scope 25 = .ok (.iload_n 1, 1) := dk_27 (by decide +kernel)
theorem dX12_scope_26 : decode cX12_scope 26 = .ok (.iaload, 1) := dk_46 (by decide +kernel)
theorem dX12_scope_27 : decode cX12_scope 27 = .ok (.ishl, 1) := dk_120 (by decide +kernel)
theorem dX12_scope_28 : decode cX12_scope 28 = .ok (.ior, 1) := dk_128 (by decide +kernel)
theorem dX12_scope_29 : decode cX12_scope 29 = .ok (.goto 34, 3) := dk_167 (by decide +kernel)
theorem dX12_scope_32 : decode cX12_scope 32 = .ok (.iload_n 2, 1) := dk_28 (by decide +kernel)
theorem dX12_scope_33 : decode cX12_scope 33 = .ok (.iconst 4, 1) := dk_7 (by decide +kernel)
theorem dX12_scope_34 : decode cX12_scope 34 = .ok (.if_icmp .ne 23, 3) := dk_160 (by decide +kernel)
theorem dX12_scope_37 : decode cX12_scope 37 = .ok (.iconst 1, 1) := dk_4 (by decide +kernel)
theorem dX12_scope_38 : decode cX12_scope 38 = .ok (.aload_n 0, 1) := dk_42 (by decide +kernel)
theorem dX12_scope_39 : decode cX12_scope 39 = .ok (.getfield 266, 3) := dk_180 (by decide +kernel)
theorem dX12_scope_42 : decode cX12_scope 42 = .ok (.iload_n 1, 1) := dk_27 (by decide +kernel)
theorem dX12_scope_43 : decode cX12_scope 43 = .ok (.iaload, 1) := dk_46 (by decide +kernel)
theorem dX12_scope_44 : decode cX12_scope 44 = .ok (.ishl, 1) := dk_120 (by decide +kernel)
theorem dX12_scope_45 : decode cX12_scope 45 = .ok (.iconst 1, 1) := dk_4 (by decide +kernel)
theorem dX12_scope_46 : decode cX12_scope 46 = .ok (.aload_n 0, 1) := dk_42 (by decide +kernel)
theorem dX12_scope_47 : decode cX12_scope 47 = .ok (.getfield 269, 3) := dk_180 (by decide +kernel)
theorem dX12_scope_50 : decode cX12_scope 50 = .ok (.iload_n 1, 1) := dk_27 (by decide +kernel)
theorem dX12_scope_51 : decode cX12_scope 51 = .ok (.iaload, 1) := dk_46 (by decide +kernel)
theorem dX12_scope_52 : decode cX12_scope 52 = .ok (.ishl, 1) := dk_120 (by decide +kernel)
theorem dX12_scope_53 : decode cX12_scope 53 = .ok (.ior, 1) := dk_128 (by decide +kernel)
theorem dX12_scope_54 : decode cX12_scope 54 = .ok (.goto 9, 3) := dk_167 (by decide +kernel)
theorem dX12_scope_57 : decode cX12_scope 57 = .ok (.aload_n 0, 1) := dk_42 (by decide +kernel)
theorem dX12_scope_58 : decode cX12_scope 58 = .ok (.getfield 266, 3) := dk_180 (by decide +kernel)
theorem dX12_scope_61 : decode cX12_scope 61 = .ok (.iload_n 1, 1) := dk_27 (by decide +kernel)
theorem dX12_scope_62 : decode cX12_scope 62 = .ok (.iaload, 1) := dk_46 (by decide +kernel)
theorem dX12_scope_63 : decode cX12_scope 63 = .ok (.ireturn, 1) := dk_172 (by decide +kernel)
def wsRX12_scope : List Cond := .code yX12_scope cX12_scope 3 (some .int) :: ([.fieldLink RX12 263 "OptimaWorksModel" "ruleKind" "[I", .fieldLink RX12 266 "OptimaWorksModel" "ruleA" "[I", .fieldLink RX12 269 "OptimaWorksModel" "ruleB" "[I", .fieldLink RX12 272 "OptimaWorksModel" "ruleC" "[I"] ++ wsX120)
theorem iwsRX12_scope_in12 : ∀ w ∈ wsX120, w ∈ wsRX12_scope := fun _ h => List.mem_cons_of_mem _ (List.mem_append_right _ h)
theorem gdwsRX12_scope : wsRX12_scope.all goodWord = true := gdC rfl (gdA (by decide +kernel : ([.fieldLink RX12 263 "OptimaWorksModel" "ruleKind" "[I", .fieldLink RX12 266 "OptimaWorksModel" "ruleA" "[I", .fieldLink RX12 269 "OptimaWorksModel" "ruleB" "[I", .fieldLink RX12 272 "OptimaWorksModel" "ruleC" "[I"] : List Cond).all goodWord = true) gdwsX120)
theorem hm_r_X12_scope_0 : (.fieldLink RX12 266 "OptimaWorksModel" "ruleA" "[I" : Cond) ∈ wsRX12_scope := by decide +kernel
set_option maxHeartbeats 4000000 in
set_option maxRecDepth 100000 in
/-- scope(r) -/
theorem r_X12_scope (l : Launch) (dC : Nat → ClassId) (dI : Nat → Nat → Nat) (a : Nat → Nat) (k : Nat → ClassId) (h0 : Nat) (vi : Nat → Int32) (vj : Nat → Int64) (vF : Nat → Nat → Int32) (vG : Nat → Nat → Int64) (rN : Nat) (hrN : rN < 12) (sz : Nat) : Met l yX12_scope wsRX12_scope ({ frames := 0, cells := 0, slots := 0, locals := 0 }) (va_Pc [.ref h0, .int (nI rN)] (fun U => U.heap.size = sz ∧ va_P (dC, dI) vwCl (WR a k h0 vi vj vF vG) U.heap ∧ va_K (dC, dI) vwCl (tX12 k) U ∧ va_D (fun _ => True) (WR a k h0 vi vj vF vG))) (va_Qi (fun (r : Int32) (u : Unit) => True) (fun (u : Unit) t => va_P (dC, dI) vwCl (WR a k h0 vi vj vF vG) t.heap ∧ va_D (va_A (WR a k h0 vi vj vF vG) sz) (WR a k h0 vi vj vF vG)) (va_A (WR a k h0 vi vj vF vG) sz)) 0 0 (va_A (WR a k h0 vi vj vF vG) sz) := by
  refine Met.ofW (cc := cX12_scope) (maxL := 3) (ret := (some .int)) (by decide) rfl ?_
  intro p e s m args below meth c s₁ B hml hv
  obtain ⟨rfl, hsz, hP, hK, hD0⟩ := hv
  have hx := B.exec
  have hb := B.bytes
  have hr := B.returns
  have hts := atoms_spec (ws := wsRX12_scope) B.pre
  have hown : s.vm.findClass RX12 = some m.cls := findClass_of_methodNamed B.named
  have hlocks := B.notSynchronized
  subst hsz
  have hD := hD0.self (sz := s.heap.size)
  generalize hAe : va_A (WR a k h0 vi vj vF vG) s.heap.size = A at hD ⊢
  have hA : ∀ q : Nat, s.heap.size ≤ q → A q := fun q h => by rw [← hAe]; exact Or.inr h
  have hS : va_S A s.heap s.heap [] := va_S.rf
  have hl := lv_entry ([.ref h0, .int (nI rN)]) (n := 3) (Nat.le_of_ble_eq_true rfl)
  rw [lg_entry_eq]
  generalize (lg_sl ([.ref h0, .int (nI rN)]) ++ List.replicate (3 - (lg_sl ([.ref h0, .int (nI rN)])).length) Slot.unset).toArray = ls at hl ⊢
  have hl : lv_has ls 3 [(0, .ref h0), (1, .int (nI rN))] := hl
  refine lv_aload_n hx hb dX12_scope_0 rfl (lv_at hl 0 rfl) ?_
  refine va_get (D := (dC, dI)) (ci := 12) (v := .ref (a 80)) (C := RX12) (T := TX12) (N := 163) (fs := fM (vS a vi vj)) hx hb hts iwsRX12_scope_in12 hown hK hP 0 rfl rfl 132 (by decide) (hts (.fieldLink RX12 263 "OptimaWorksModel" "ruleKind" "[I") (by decide +kernel)) (fun _ h9 => h9) rfl dX12_scope_1 ?_
  refine lv_iload_n hx hb dX12_scope_4 rfl (lv_at hl 1 rfl) ?_
  refine va_iald (cA := k 80) (n := 12) (f := (vF 80)) hx hb hK hP 81 80 (WR_get 80 (by decide)) (TR_get 80 (by decide)) (vp_in_nI (show rN < 12 by omega) (by omega)) dX12_scope_5 ?_
  refine lv_topi (fun y1 hy1 => ?_)
  obtain rfl : ((vF 80) rN) = y1 := (hy1.trans (by rw [nI_clamp (by omega)])).symm
  refine lv_istore_n hx hb dX12_scope_6 rfl hl (by decide) rfl (fun ls (hl : lv_has ls _ ([(2, .int ((vF 80) rN)), (0, .ref h0), (1, .int (nI rN))])) => ?_)
  refine lv_iload_n hx hb dX12_scope_7 rfl (lv_at hl 0 rfl) ?_
  refine lv_iconst (v := 1) hx hb dX12_scope_8 (by decide) ?_
  refine W.cut (pc := 63) (fun H locs ls stk => ∃ (j1_s0 : Int32),  stk = [.int j1_s0] ∧ va_P (dC, dI) vwCl (WR a k h0 vi vj vF vG) H ∧ va_D A (WR a k h0 vi vj vF vG) ∧ va_S A s.heap H locs ∧ lv_has ls 3 [(2, .int ((vF 80) rN)), (0, .ref h0), (1, .int (nI rN))]) (fun join1 => ?_) ?_
  · refine lv_icmp_ne (tgt := 32) hx hb dX12_scope_9 (by decide) (fun c_9 => ?_) (fun c_9 => ?_)
    · have t_9 : (((vF 80) rN)).toInt ≠ 1 := toI_ne c_9 rfl (by decide)
      refine lv_iload_n hx hb dX12_scope_32 rfl (lv_at hl 0 rfl) ?_
      refine lv_iconst (v := 4) hx hb dX12_scope_33 (by decide) ?_
      refine lv_icmp_ne (tgt := 57) hx hb dX12_scope_34 (by decide) (fun c_34 => ?_) (fun c_34 => ?_)
      · have t_34 : (((vF 80) rN)).toInt ≠ 4 := toI_ne c_34 rfl (by decide)
        refine lv_aload_n hx hb dX12_scope_57 rfl (lv_at hl 1 rfl) ?_
        refine va_get (D := (dC, dI)) (ci := 12) (v := .ref (a 81)) (C := RX12) (T := TX12) (N := 163) (fs := fM (vS a vi vj)) hx hb hts iwsRX12_scope_in12 hown hK hP 0 rfl rfl 133 (by decide) (hts _ hm_r_X12_scope_0) (fun _ h9 => h9) rfl dX12_scope_58 ?_
        refine lv_iload_n hx hb dX12_scope_61 rfl (lv_at hl 2 rfl) ?_
        refine va_iald (cA := k 81) (n := 12) (f := (vF 81)) hx hb hK hP 82 81 (WR_get 81 (by decide)) (TR_get 81 (by decide)) (vp_in_nI (show rN < 12 by omega) (by omega)) dX12_scope_62 ?_
        refine lv_topi (fun y2 hy2 => ?_)
        obtain rfl : ((vF 81) rN) = y2 := (hy2.trans (by rw [nI_clamp (by omega)])).symm
        have hl : lv_has _ _ ([(2, .int ((vF 80) rN)), (0, .ref h0), (1, .int (nI rN))]) := lv_sub hl [0, 1, 2] rfl
        exact join1 _ _ _ _ ⟨((vF 81) rN), rfl, hP, hD, hS, hl⟩
      · have t_34 : (((vF 80) rN)).toInt = 4 := toI_nne c_34 rfl (by decide)
        refine lv_iconst (v := 1) hx hb dX12_scope_37 (by decide) ?_
        refine lv_aload_n hx hb dX12_scope_38 rfl (lv_at hl 1 rfl) ?_
        refine va_get (D := (dC, dI)) (ci := 12) (v := .ref (a 81)) (C := RX12) (T := TX12) (N := 163) (fs := fM (vS a vi vj)) hx hb hts iwsRX12_scope_in12 hown hK hP 0 rfl rfl 133 (by decide) (hts _ hm_r_X12_scope_0) (fun _ h9 => h9) rfl dX12_scope_39 ?_
        refine lv_iload_n hx hb dX12_scope_42 rfl (lv_at hl 2 rfl) ?_
        refine va_iald (cA := k 81) (n := 12) (f := (vF 81)) hx hb hK hP 82 81 (WR_get 81 (by decide)) (TR_get 81 (by decide)) (vp_in_nI (show rN < 12 by omega) (by omega)) dX12_scope_43 ?_
        refine lv_topi (fun y3 hy3 => ?_)
        obtain rfl : ((vF 81) rN) = y3 := (hy3.trans (by rw [nI_clamp (by omega)])).symm
        refine lv_ishl hx hb dX12_scope_44 ?_
        refine lv_iconst (v := 1) hx hb dX12_scope_45 (by decide) ?_
        refine lv_aload_n hx hb dX12_scope_46 rfl (lv_at hl 1 rfl) ?_
        refine va_get (D := (dC, dI)) (ci := 12) (v := .ref (a 82)) (C := RX12) (T := TX12) (N := 163) (fs := fM (vS a vi vj)) hx hb hts iwsRX12_scope_in12 hown hK hP 0 rfl rfl 134 (by decide) (hts (.fieldLink RX12 269 "OptimaWorksModel" "ruleB" "[I") (by decide +kernel)) (fun _ h9 => h9) rfl dX12_scope_47 ?_
        refine lv_iload_n hx hb dX12_scope_50 rfl (lv_at hl 2 rfl) ?_
        refine va_iald (cA := k 82) (n := 12) (f := (vF 82)) hx hb hK hP 83 82 (WR_get 82 (by decide)) (TR_get 82 (by decide)) (vp_in_nI (show rN < 12 by omega) (by omega)) dX12_scope_51 ?_
        refine lv_topi (fun y4 hy4 => ?_)
        obtain rfl : ((vF 82) rN) = y4 := (hy4.trans (by rw [nI_clamp (by omega)])).symm
        refine lv_ishl hx hb dX12_scope_52 ?_
        refine lv_ior hx hb dX12_scope_53 ?_
        refine lv_goto (tgt := 63) hx hb dX12_scope_54 (by decide) ?_
        have hl : lv_has _ _ ([(2, .int ((vF 80) rN)), (0, .ref h0), (1, .int (nI rN))]) := lv_sub hl [0, 1, 2] rfl
        exact join1 _ _ _ _ ⟨((1 <<< (((vF 81) rN) &&& 31)) ||| (1 <<< (((vF 82) rN) &&& 31))), rfl, hP, hD, hS, hl⟩
    · have t_9 : (((vF 80) rN)).toInt = 1 := toI_nne c_9 rfl (by decide)
      refine lv_iconst (v := 1) hx hb dX12_scope_12 (by decide) ?_
      refine lv_aload_n hx hb dX12_scope_13 rfl (lv_at hl 1 rfl) ?_
      refine va_get (D := (dC, dI)) (ci := 12) (v := .ref (a 81)) (C := RX12) (T := TX12) (N := 163) (fs := fM (vS a vi vj)) hx hb hts iwsRX12_scope_in12 hown hK hP 0 rfl rfl 133 (by decide) (hts _ hm_r_X12_scope_0) (fun _ h9 => h9) rfl dX12_scope_14 ?_
      refine lv_iload_n hx hb dX12_scope_17 rfl (lv_at hl 2 rfl) ?_
      refine va_iald (cA := k 81) (n := 12) (f := (vF 81)) hx hb hK hP 82 81 (WR_get 81 (by decide)) (TR_get 81 (by decide)) (vp_in_nI (show rN < 12 by omega) (by omega)) dX12_scope_18 ?_
      refine lv_topi (fun y5 hy5 => ?_)
      obtain rfl : ((vF 81) rN) = y5 := (hy5.trans (by rw [nI_clamp (by omega)])).symm
      refine lv_ishl hx hb dX12_scope_19 ?_
      refine lv_iconst (v := 1) hx hb dX12_scope_20 (by decide) ?_
      refine lv_aload_n hx hb dX12_scope_21 rfl (lv_at hl 1 rfl) ?_
      refine va_get (D := (dC, dI)) (ci := 12) (v := .ref (a 83)) (C := RX12) (T := TX12) (N := 163) (fs := fM (vS a vi vj)) hx hb hts iwsRX12_scope_in12 hown hK hP 0 rfl rfl 135 (by decide) (hts (.fieldLink RX12 272 "OptimaWorksModel" "ruleC" "[I") (by decide +kernel)) (fun _ h9 => h9) rfl dX12_scope_22 ?_
      refine lv_iload_n hx hb dX12_scope_25 rfl (lv_at hl 2 rfl) ?_
      refine va_iald (cA := k 83) (n := 12) (f := (vF 83)) hx hb hK hP 84 83 (WR_get 83 (by decide)) (TR_get 83 (by decide)) (vp_in_nI (show rN < 12 by omega) (by omega)) dX12_scope_26 ?_
      refine lv_topi (fun y6 hy6 => ?_)
      obtain rfl : ((vF 83) rN) = y6 := (hy6.trans (by rw [nI_clamp (by omega)])).symm
      refine lv_ishl hx hb dX12_scope_27 ?_
      refine lv_ior hx hb dX12_scope_28 ?_
      refine lv_goto (tgt := 63) hx hb dX12_scope_29 (by decide) ?_
      have hl : lv_has _ _ ([(2, .int ((vF 80) rN)), (0, .ref h0), (1, .int (nI rN))]) := lv_sub hl [0, 1, 2] rfl
      exact join1 _ _ _ _ ⟨((1 <<< (((vF 81) rN) &&& 31)) ||| (1 <<< (((vF 83) rN) &&& 31))), rfl, hP, hD, hS, hl⟩
  · rintro H locs ls stk ⟨j1_s0, rfl, hP, hD, hS, hl⟩
    refine W.widen (k := 0) (n := 0) (by decide +kernel) (by decide +kernel) ?_
    exact W.iret (v := j1_s0) hx hb hr (fun t9_ ht hW => ⟨⟨j1_s0, (), rfl, trivial, by rw [ht]; exact hP, hD⟩, hS.F ht⟩) hS.2.2 dX12_scope_63
theorem dX12_canHold_0 : decode cX12_canHold 0 = .ok (.aload_n 0, 1) := dk_42 (by decide +kernel)
theorem dX12_canHold_1 : decode cX12_canHold 1 = .ok (.iload_n 1, 1) := dk_27 (by decide +kernel)
theorem dX12_canHold_2 : decode cX12_canHold 2 = .ok (.invokevirtual 994, 3) := dk_182 (by decide +kernel)
theorem dX12_canHold_5 : decode cX12_canHold 5 = .ok (.istore_n 2, 1) := dk_61 (by decide +kernel)
theorem dX12_canHold_6 : decode cX12_canHold 6 = .ok (.iconst 0, 1) := dk_3 (by decide +kernel)
theorem dX12_canHold_7 : decode cX12_canHold 7 = .ok (.istore_n 3, 1) := dk_62 (by decide +kernel)
theorem dX12_canHold_8 : decode cX12_canHold 8 = .ok (.iload_n 3, 1) := dk_29 (by decide +kernel)
theorem dX12_canHold_9 : decode cX12_canHold 9 = .ok (.aload_n 0, 1) := dk_42 (by decide +kernel)
theorem dX12_canHold_10 : decode cX12_canHold 10 = .ok (.getfield 978, 3) := dk_180 (by decide +kernel)
theorem dX12_canHold_13 : decode cX12_canHold 13 = .ok (.if_icmp .ge 29, 3) := dk_162 (by decide +kernel)
theorem dX12_canHold_16 : decode cX12_canHold 16 = .ok (.iload_n 2, 1) := dk_28 (by decide +kernel)
theorem dX12_canHold_17 : decode cX12_canHold 17 = .ok (.iload_n 3, 1) := dk_29 (by decide +kernel)
theorem dX12_canHold_18 : decode cX12_canHold 18 = .ok (.ishr, 1) := dk_122 (by decide +kernel)
theorem dX12_canHold_19 : decode cX12_canHold 19 = .ok (.iconst 1, 1) := dk_4 (by decide +kernel)
theorem dX12_canHold_20 : decode cX12_canHold 20 = .ok (.iand, 1) := dk_126 (by decide +kernel)
theorem dX12_canHold_21 : decode cX12_canHold 21 = .ok (.iconst 1, 1) := dk_4 (by decide +kernel)
theorem dX12_canHold_22 : decode cX12_canHold 22 = .ok (.if_icmp .ne 14, 3) := dk_160 (by decide +kernel)
theorem dX12_canHold_25 : decode cX12_canHold 25 = .ok (.aload_n 0, 1) := dk_42 (by decide +kernel)
theorem dX12_canHold_26 : decode cX12_canHold 26 = .ok (.getfield 281, 3) := dk_180 (by decide +kernel)
theorem dX12_canHold_29 : decode cX12_canHold 29 = .ok (.iload_n 3, 1) := dk_29 (by decide +kernel)
theorem dX12_canHold_30 : decode cX12_canHold 30 = .ok (.iaload, 1) := dk_46 (by decide +kernel)
theorem dX12_canHold_31 : decode cX12_canHold 31 = .ok (.ifCond .ne 5, 3) := dk_154 (by decide +kernel)
theorem dX12_canHold_34 : decode cX12_canHold 34 = .ok (.iconst 0, 1) := dk_3 (by decide +kernel)
theorem dX12_canHold_35 : decode cX12_canHold 35 = .ok (.ireturn, 1) := dk_172 (by decide +kernel)
theorem dX12_canHold_36 : decode cX12_canHold 36 = .ok (.iinc 3 1, 3) := dk_132 (by decide +kernel)
theorem dX12_canHold_39 : decode cX12_canHold 39 = .ok (.goto (-31), 3) := dk_167 (by decide +kernel)
theorem dX12_canHold_42 : decode cX12_canHold 42 = .ok (.aload_n 0, 1) := dk_42 (by decide +kernel)
theorem dX12_canHold_43 : decode cX12_canHold 43 = .ok (.getfield 263, 3) := dk_180 (by decide +kernel)
theorem dX12_canHold_46 : decode cX12_canHold 46 = .ok (.iload_n 1, 1) := dk_27 (by decide +kernel)
theorem dX12_canHold_47 : decode cX12_canHold 47 = .ok (.iaload, 1) := dk_46 (by decide +kernel)
theorem dX12_canHold_48 : decode cX12_canHold 48 = .ok (.tableswitch 107 0 3 #[32, 38, 61, 79], 32) := by decide +kernel
theorem dX12_canHold_80 : decode cX12_canHold 80 = .ok (.aload_n 0, 1) := dk_42 (by decide +kernel)
theorem dX12_canHold_81 : decode cX12_canHold 81 = .ok (.iload_n 2, 1) := dk_28 (by decide +kernel)
theorem dX12_canHold_82 : decode cX12_canHold 82 = .ok (.invokevirtual 997, 3) := dk_182 (by decide +kernel)
theorem dX12_canHold_85 : decode cX12_canHold 85 = .ok (.ireturn, 1) := dk_172 (by decide +kernel)
theorem dX12_canHold_86 : decode cX12_canHold 86 = .ok (.aload_n 0, 1) := dk_42 (by decide +kernel)
theorem dX12_canHold_87 : decode cX12_canHold 87 = .ok (.aload_n 0, 1) := dk_42 (by decide +kernel)
theorem dX12_canHold_88 : decode cX12_canHold 88 = .ok (.getfield 266, 3) := dk_180 (by decide +kernel)
theorem dX12_canHold_91 : decode cX12_canHold 91 = .ok (.iload_n 1, 1) := dk_27 (by decide +kernel)
theorem dX12_canHold_92 : decode cX12_canHold 92 = .ok (.iaload, 1) := dk_46 (by decide +kernel)
theorem dX12_canHold_93 : decode cX12_canHold 93 = .ok (.aload_n 0, 1) := dk_42 (by decide +kernel)
theorem dX12_canHold_94 : decode cX12_canHold 94 = .ok (.getfield 269, 3) := dk_180 (by decide +kernel)
theorem dX12_canHold_97 : decode cX12_canHold 97 = .ok (.iload_n 1, 1) := dk_27 (by decide +kernel)
theorem dX12_canHold_98 : decode cX12_canHold 98 = .ok (.iaload, 1) := dk_46 (by decide +kernel)
theorem dX12_canHold_99 : decode cX12_canHold 99 = .ok (.aload_n 0, 1) := dk_42 (by decide +kernel)
theorem dX12_canHold_100 : decode cX12_canHold 100 = .ok (.getfield 272, 3) := dk_180 (by decide +kernel)
theorem dX12_canHold_103 : decode cX12_canHold 103 = .ok (.iload_n 1, 1) := dk_27 (by decide +kernel)
theorem dX12_canHold_104 : decode cX12_canHold 104 = .ok (.iaload, 1) := dk_46 (by decide +kernel)
theorem dX12_canHold_105 : decode cX12_canHold 105 = .ok (.invokevirtual 1000, 3) := dk_182 (by decide +kernel)
theorem dX12_canHold_108 : decode cX12_canHold 108 = .ok (.ireturn, 1) := dk_172 (by decide +kernel)
theorem dX12_canHold_109 : decode cX12_canHold 109 = .ok (.aload_n 0, 1) := dk_42 (by decide +kernel)
theorem dX12_canHold_110 : decode cX12_canHold 110 = .ok (.iload_n 2, 1) := dk_28 (by decide +kernel)
theorem dX12_canHold_111 : decode cX12_canHold 111 = .ok (.aload_n 0, 1) := dk_42 (by decide +kernel)
theorem dX12_canHold_112 : decode cX12_canHold 112 = .ok (.getfield 269, 3) := dk_180 (by decide +kernel)
theorem dX12_canHold_115 : decode cX12_canHold 115 = .ok (.iload_n 1, 1) := dk_27 (by decide +kernel)
theorem dX12_canHold_116 : decode cX12_canHold 116 = .ok (.iaload, 1) := dk_46 (by decide +kernel)
theorem dX12_canHold_117 : decode cX12_canHold 117 = .ok (.aload_n 0, 1) := dk_42 (by decide +kernel)
theorem dX12_canHold_118 : decode cX12_canHold 118 = .ok (.getfield 272, 3) := dk_180 (by decide +kernel)
theorem dX12_canHold_121 : decode cX12_canHold 121 = .ok (.iload_n 1, 1) := dk_27 (by decide +kernel)
theorem dX12_canHold_122 : decode cX12_canHold 122 = .ok (.iaload, 1) := dk_46 (by decide +kernel)
theorem dX12_canHold_123 : decode cX12_canHold 123 = .ok (.invokevirtual 1004, 3) := dk_182 (by decide +kernel)
theorem dX12_canHold_126 : decode cX12_canHold 126 = .ok (.ireturn, 1) := dk_172 (by decide +kernel)
theorem dX12_canHold_127 : decode cX12_canHold 127 = .ok (.aload_n 0, 1) := dk_42 (by decide +kernel)
theorem dX12_canHold_128 : decode cX12_canHold 128 = .ok (.iload_n 2, 1) := dk_28 (by decide +kernel)
theorem dX12_canHold_129 : decode cX12_canHold 129 = .ok (.iconst 1, 1) := dk_4 (by decide +kernel)
theorem dX12_canHold_130 : decode cX12_canHold 130 = .ok (.aload_n 0, 1) := dk_42 (by decide +kernel)
theorem dX12_canHold_131 : decode cX12_canHold 131 = .ok (.getfield 272, 3) := dk_180 (by decide +kernel)
theorem dX12_canHold_134 : decode cX12_canHold 134 = .ok (.iload_n 1, 1) := dk_27 (by decide +kernel)
theorem dX12_canHold_135 : decode cX12_canHold 135 = .ok (.iaload, 1) := dk_46 (by decide +kernel)
theorem dX12_canHold_136 : decode cX12_canHold 136 = .ok (.ishl, 1) := dk_120 (by decide +kernel)
theorem dX12_canHold_137 : decode cX12_canHold 137 = .ok (.invokevirtual 1007, 3) := dk_182 (by decide +kernel)
theorem dX12_canHold_140 : decode cX12_canHold 140 = .ok (.aload_n 0, 1) := dk_42 (by decide +kernel)
theorem dX12_canHold_141 : decode cX12_canHold 141 = .ok (.getfield 269, 3) := dk_180 (by decide +kernel)
theorem dX12_canHold_144 : decode cX12_canHold 144 = .ok (.iload_n 1, 1) := dk_27 (by decide +kernel)
theorem dX12_canHold_145 : decode cX12_canHold 145 = .ok (.iaload, 1) := dk_46 (by decide +kernel)
theorem dX12_canHold_146 : decode cX12_canHold 146 = .ok (.if_icmp .gt 7, 3) := dk_163 (by decide +kernel)
theorem dX12_canHold_149 : decode cX12_canHold 149 = .ok (.iconst 1, 1) := dk_4 (by decide +kernel)
theorem dX12_canHold_150 : decode cX12_canHold 150 = .ok (.goto 4, 3) := dk_167 (by decide +kernel)
theorem dX12_canHold_153 : decode cX12_canHold 153 = .ok (.iconst 0, 1) := dk_3 (by decide +kernel)
theorem dX12_canHold_154 : decode cX12_canHold 154 = .ok (.ireturn, 1) := dk_172 (by decide +kernel)
theorem dX12_canHold_155 : decode cX12_canHold 155 = .ok (.aload_n 0, 1) := dk_42 (by decide +kernel)
theorem dX12_canHold_156 : decode cX12_canHold 156 = .ok (.iload_n 1, 1) := dk_27 (by decide +kernel)
theorem dX12_canHold_157 : decode cX12_canHold 157 = .ok (.invokevirtual 1010, 3) := dk_182 (by decide +kernel)
theorem dX12_canHold_160 : decode cX12_canHold 160 = .ok (.ireturn, 1) := dk_172 (by decide +kernel)
def wsRX12_canHold : List Cond := .code yX12_canHold cX12_canHold 4 (some .boolean) :: ([.fieldLink RX12 978 "OptimaWorksModel" "holders" "I", .fieldLink RX12 263 "OptimaWorksModel" "ruleKind" "[I", .fieldLink RX12 266 "OptimaWorksModel" "ruleA" "[I", .fieldLink RX12 269 "OptimaWorksModel" "ruleB" "[I", .fieldLink RX12 272 "OptimaWorksModel" "ruleC" "[I", .fieldLink RX12 281 "OptimaWorksModel" "with" "[I"] ++ wsX120 ++ (wsV RX12 994 RX12 yX12_scope wsRX12_scope) ++ (wsV RX12 997 RX12 yX12_canDiffer wsRX12_canDiffer) ++ (wsV RX12 1000 RX12 yX12_canOrder wsRX12_canOrder) ++ (wsV RX12 1004 RX12 yX12_canSum wsRX12_canSum) ++ (wsV RX12 1007 RX12 yX12_must wsRX12_must) ++ (wsV RX12 1010 RX12 yX12_canPair wsRX12_canPair))
theorem iwsRX12_canHold_in12 : ∀ w ∈ wsX120, w ∈ wsRX12_canHold := fun _ h => List.mem_cons_of_mem _ (List.mem_append_left _ (List.mem_append_left _ (List.mem_append_left _ (List.mem_append_left _ (List.mem_append_left _ (List.mem_append_left _ (List.mem_append_right _ h)))))))
theorem gwsRX12_canHold_0 : GoodIn wsRX12_canHold (wsV RX12 994 RX12 yX12_scope wsRX12_scope) := goodIn_sub (fun _ h => List.mem_cons_of_mem _ (List.mem_append_left _ (List.mem_append_left _ (List.mem_append_left _ (List.mem_append_left _ (List.mem_append_left _ (List.mem_append_right _ h))))))) (gdV (by decide +kernel) gdwsRX12_scope)
theorem gwsRX12_canHold_1 : GoodIn wsRX12_canHold (wsV RX12 997 RX12 yX12_canDiffer wsRX12_canDiffer) := goodIn_sub (fun _ h => List.mem_cons_of_mem _ (List.mem_append_left _ (List.mem_append_left _ (List.mem_append_left _ (List.mem_append_left _ (List.mem_append_right _ h)))))) (gdV (by decide +kernel) gdwsRX12_canDiffer)
theorem gwsRX12_canHold_2 : GoodIn wsRX12_canHold (wsV RX12 1000 RX12 yX12_canOrder wsRX12_canOrder) := goodIn_sub (fun _ h => List.mem_cons_of_mem _ (List.mem_append_left _ (List.mem_append_left _ (List.mem_append_left _ (List.mem_append_right _ h))))) (gdV (by decide +kernel) gdwsRX12_canOrder)
theorem gwsRX12_canHold_3 : GoodIn wsRX12_canHold (wsV RX12 1004 RX12 yX12_canSum wsRX12_canSum) := goodIn_sub (fun _ h => List.mem_cons_of_mem _ (List.mem_append_left _ (List.mem_append_left _ (List.mem_append_right _ h)))) (gdV (by decide +kernel) gdwsRX12_canSum)
theorem gwsRX12_canHold_4 : GoodIn wsRX12_canHold (wsV RX12 1007 RX12 yX12_must wsRX12_must) := goodIn_sub (fun _ h => List.mem_cons_of_mem _ (List.mem_append_left _ (List.mem_append_right _ h))) (gdV (by decide +kernel) gdwsRX12_must)
theorem gwsRX12_canHold_5 : GoodIn wsRX12_canHold (wsV RX12 1010 RX12 yX12_canPair wsRX12_canPair) := goodIn_sub (fun _ h => List.mem_cons_of_mem _ (List.mem_append_right _ h)) (gdV (by decide +kernel) gdwsRX12_canPair)
theorem gdwsRX12_canHold : wsRX12_canHold.all goodWord = true := gdC rfl (gdA (gdA (gdA (gdA (gdA (gdA (gdA (by decide +kernel : ([.fieldLink RX12 978 "OptimaWorksModel" "holders" "I", .fieldLink RX12 263 "OptimaWorksModel" "ruleKind" "[I", .fieldLink RX12 266 "OptimaWorksModel" "ruleA" "[I", .fieldLink RX12 269 "OptimaWorksModel" "ruleB" "[I", .fieldLink RX12 272 "OptimaWorksModel" "ruleC" "[I", .fieldLink RX12 281 "OptimaWorksModel" "with" "[I"] : List Cond).all goodWord = true) gdwsX120) (gdV (by decide +kernel) gdwsRX12_scope)) (gdV (by decide +kernel) gdwsRX12_canDiffer)) (gdV (by decide +kernel) gdwsRX12_canOrder)) (gdV (by decide +kernel) gdwsRX12_canSum)) (gdV (by decide +kernel) gdwsRX12_must)) (gdV (by decide +kernel) gdwsRX12_canPair))
theorem hm_r_X12_canHold_0 : (.fieldLink RX12 269 "OptimaWorksModel" "ruleB" "[I" : Cond) ∈ wsRX12_canHold := by decide +kernel
theorem hm_r_X12_canHold_1 : (.fieldLink RX12 272 "OptimaWorksModel" "ruleC" "[I" : Cond) ∈ wsRX12_canHold := by decide +kernel
set_option maxHeartbeats 4000000 in
set_option maxRecDepth 100000 in
/-- canHold(r) -/
theorem r_X12_canHold (l : Launch) (dC : Nat → ClassId) (dI : Nat → Nat → Nat) (a : Nat → Nat) (k : Nat → ClassId) (h0 : Nat) (vi : Nat → Int32) (vj : Nat → Int64) (vF : Nat → Nat → Int32) (vG : Nat → Nat → Int64) (rN : Nat) (hn : Nat) (hrN : rN < 12) (hhn : vi 128 = nI hn) (hhn10 : hn ≤ 10) (hRV : RulV (vF 80 rN) (vF 81 rN) (vF 82 rN) (vF 83 rN) hn) (sz : Nat) : Met l yX12_canHold wsRX12_canHold ({ frames := 3, cells := 0, slots := 0, locals := 73 }) (va_Pc [.ref h0, .int (nI rN)] (fun U => U.heap.size = sz ∧ va_P (dC, dI) vwCl (WR a k h0 vi vj vF vG) U.heap ∧ va_K (dC, dI) vwCl (tX12 k) U ∧ va_D (fun _ => True) (WR a k h0 vi vj vF vG))) (va_Qi (fun (r : Int32) (u : (Nat → Int32) × (Nat → Int32) × (Nat → Int32)) => (r = 1) ∨ (r = 0)) (fun (u : (Nat → Int32) × (Nat → Int32) × (Nat → Int32)) t => va_P (dC, dI) vwCl (WR a k h0 vi vj (fT (fT (fT vF 87 (u.1)) 88 (u.2.1)) 89 (u.2.2)) vG) t.heap ∧ va_D (va_A (WR a k h0 vi vj vF vG) sz) (WR a k h0 vi vj (fT (fT (fT vF 87 (u.1)) 88 (u.2.1)) 89 (u.2.2)) vG)) (va_A (WR a k h0 vi vj vF vG) sz)) 0 0 (va_A (WR a k h0 vi vj vF vG) sz) := by
  refine Met.ofW (cc := cX12_canHold) (maxL := 4) (ret := (some .boolean)) (by decide) rfl ?_
  intro p e s m args below meth c s₁ B hml hv
  obtain ⟨rfl, hsz, hP, hK, hD0⟩ := hv
  have hx := B.exec
  have hb := B.bytes
  have hr := B.returns
  have hts := atoms_spec (ws := wsRX12_canHold) B.pre
  have hown : s.vm.findClass RX12 = some m.cls := findClass_of_methodNamed B.named
  have hlocks := B.notSynchronized
  subst hsz
  have hD := hD0.self (sz := s.heap.size)
  generalize hAe : va_A (WR a k h0 vi vj vF vG) s.heap.size = A at hD ⊢
  have hA : ∀ q : Nat, s.heap.size ≤ q → A q := fun q h => by rw [← hAe]; exact Or.inr h
  have hS : va_S A s.heap s.heap [] := va_S.rf
  have hl := lv_entry ([.ref h0, .int (nI rN)]) (n := 4) (Nat.le_of_ble_eq_true rfl)
  rw [lg_entry_eq]
  generalize (lg_sl ([.ref h0, .int (nI rN)]) ++ List.replicate (4 - (lg_sl ([.ref h0, .int (nI rN)])).length) Slot.unset).toArray = ls at hl ⊢
  have hl : lv_has ls 4 [(0, .ref h0), (1, .int (nI rN))] := hl
  refine lv_aload_n hx hb dX12_canHold_0 rfl (lv_at hl 0 rfl) ?_
  refine lv_iload_n hx hb dX12_canHold_1 rfl (lv_at hl 1 rfl) ?_
  have hFc := allFree hD hS hA
  refine va_calli (va_runV (As := [.int (nI rN)]) (rest := []) ⟨hx, hb, hml, hown, hts⟩ (r_X12_scope l dC dI a k h0 vi vj vF vG rN (by first | with_reducible assumption | decide | omega | rfl | assumption) s.heap.size) (cwV 1 hts gwsRX12_canHold_0 rfl rfl rfl hd_yX12_scope_RX12 (by decide +kernel)) (fz_pre (va_recv hK hP (ci := 12) (q0 := 0) rfl rfl) hP hK hD) rfl rfl hl.1 rfl (lv_room (Nat.le_of_ble_eq_true rfl)) dX12_canHold_2 (by decide +kernel)) hS (fun q _ h => hFc q h) hFc (fun r2 u t9_ H locs ht hvm hw9 hB9 hz1 hk1 hS => ?_)
  have hP : va_P (dC, dI) vwCl (WR a k h0 vi vj vF vG) H := fz_P ht hB9.1
  have hD := fz_sd hP (hB9.2.weaken (fun _ q _ h => hFc q.1 h)) rfl
  refine lv_istore_n hx hb dX12_canHold_5 rfl hl (by decide) rfl (fun ls (hl : lv_has ls _ ([(2, .int r2), (0, .ref h0), (1, .int (nI rN))])) => ?_)
  refine lv_iconst (v := 0) hx hb dX12_canHold_6 (by decide) ?_
  refine lv_istore_n hx hb dX12_canHold_7 rfl hl (by decide) rfl (fun ls (hl : lv_has ls _ ([(3, .int 0), (2, .int r2), (0, .ref h0), (1, .int (nI rN))])) => ?_)
  have hl : lv_has _ _ ([(0, .ref h0), (1, .int (nI rN)), (2, .int r2), (3, .int (nI 0))]) := lv_sub hl [2, 3, 1, 0] rfl
  refine (fun (loop : ∀ (n9 : Nat) (i5 : Nat) (H : Heap) (locs : List Loc) (ls : Array Slot), (i5 ≤ hn) →  (hn < i5 + n9) → va_P (dC, dI) vwCl (WR a k h0 vi vj vF vG) H → va_D A (WR a k h0 vi vj vF vG) → va_S A s.heap H locs → lv_has ls 4 [(0, .ref h0), (1, .int (nI rN)), (2, .int r2), (3, .int (nI i5))] → W p l e _ s m _ below meth c H locs 0 0 _ (F0 m 8 ls [])) => loop (hn + 1) 0 _ _ _ (by omega) (by omega) hP hD hS hl) ?_
  intro n9
  induction n9 with
  | zero => intro i5 H locs ls hi5 hf9; exact False.elim (by omega)
  | succ n9 ih8 =>
    intro i5 H locs ls hi5 hf8 hP hD hS hl
    refine lv_iload_n hx hb dX12_canHold_8 rfl (lv_at hl 3 rfl) ?_
    refine lv_aload_n hx hb dX12_canHold_9 rfl (lv_at hl 0 rfl) ?_
    refine va_get (D := (dC, dI)) (ci := 12) (v := .int (vi 128)) (C := RX12) (T := TX12) (N := 163) (fs := fM (vS a vi vj)) hx hb hts iwsRX12_canHold_in12 hown hK hP 0 rfl rfl 128 (by decide) (hts (.fieldLink RX12 978 "OptimaWorksModel" "holders" "I") (by decide +kernel)) (fun _ h9 => h9) rfl dX12_canHold_10 ?_
    refine lv_topi (fun y1 hy1 => ?_)
    obtain rfl : (nI hn) = y1 := (hy1.trans (hhn)).symm
    refine lv_icmp_ge (tgt := 42) hx hb dX12_canHold_13 (by decide) (fun c_13 => ?_) (fun c_13 => ?_)
    · have t_13 : ((i5 : Nat) : Int) ≥ ((hn : Nat) : Int) := toI_ge c_13 (nI_toInt (by omega)) (nI_toInt (by omega))
      refine lv_aload_n hx hb dX12_canHold_42 rfl (lv_at hl 0 rfl) ?_
      refine va_get (D := (dC, dI)) (ci := 12) (v := .ref (a 80)) (C := RX12) (T := TX12) (N := 163) (fs := fM (vS a vi vj)) hx hb hts iwsRX12_canHold_in12 hown hK hP 0 rfl rfl 132 (by decide) (hts (.fieldLink RX12 263 "OptimaWorksModel" "ruleKind" "[I") (by decide +kernel)) (fun _ h9 => h9) rfl dX12_canHold_43 ?_
      refine lv_iload_n hx hb dX12_canHold_46 rfl (lv_at hl 1 rfl) ?_
      refine va_iald (cA := k 80) (n := 12) (f := (vF 80)) hx hb hK hP 81 80 (WR_get 80 (by decide)) (TR_get 80 (by decide)) (vp_in_nI (show rN < 12 by omega) (by omega)) dX12_canHold_47 ?_
      refine lv_topi (fun y2 hy2 => ?_)
      obtain rfl : ((vF 80) rN) = y2 := (hy2.trans (by rw [nI_clamp (by omega)])).symm
      by_cases s_48_0 : ((vF 80) rN) = 0
      · have ts_48_0 : (((vF 80) rN)).toInt = 0 := toI_eq s_48_0 rfl (by decide)
        refine lv_tableIn (off := 32) (tgt := 80) hx hb dX12_canHold_48 (by rw [s_48_0]; decide) (by rw [s_48_0]; decide) (by rw [s_48_0]; decide) (by decide) ?_
        refine lv_aload_n hx hb dX12_canHold_80 rfl (lv_at hl 0 rfl) ?_
        refine lv_iload_n hx hb dX12_canHold_81 rfl (lv_at hl 2 rfl) ?_
        have hFc := allFree hD hS hA
        refine va_calli (va_runV (As := [.int r2]) (rest := []) ⟨hx, hb, hml, hown, hts⟩ (r_X12_canDiffer l dC dI a k h0 vi vj vF vG r2 hn hhn (by first | with_reducible assumption | decide | omega | rfl | assumption) H.size) (cwV 1 hts gwsRX12_canHold_1 rfl rfl rfl hd_yX12_canDiffer_RX12 (by decide +kernel)) (fz_pre (va_recv hK hP (ci := 12) (q0 := 0) rfl rfl) hP hK hD) rfl rfl hl.1 rfl (lv_room (Nat.le_of_ble_eq_true rfl)) dX12_canHold_82 (by decide +kernel)) hS (fun q _ h => hFc q h) hFc (fun r82 u t9_ H locs ht hvm hw9 hB9 hz1 hk1 hS => ?_)
        revert u hw9 hB9
        refine fz_p3 ?_
        intro g8782 g8882 g8982 hw9 hB9
        try dsimp only at hw9 hB9
        have hP : va_P (dC, dI) vwCl (WR a k h0 vi vj (fT (fT (fT vF 87 g8782) 88 g8882) 89 g8982) vG) H := fz_P ht hB9.1
        have hD := fz_sd hP (hB9.2.weaken (fun _ q _ h => hFc q.1 h)) rfl
        rcases hw9 with rfl | rfl
        · refine W.widen (k := 0) (n := 0) (by decide +kernel) (by decide +kernel) ?_
          exact W.zret (v := 1) hx hb hr rfl (fun t9_ ht hW => ⟨⟨1, (g8782, g8882, g8982), rfl, by (try dsimp only); exact Or.inl rfl, by rw [ht]; exact hP, hD⟩, hS.F ht⟩) hS.2.2 dX12_canHold_85
        · refine W.widen (k := 0) (n := 0) (by decide +kernel) (by decide +kernel) ?_
          exact W.zret (v := 0) hx hb hr rfl (fun t9_ ht hW => ⟨⟨0, (g8782, g8882, g8982), rfl, by (try dsimp only); exact Or.inr rfl, by rw [ht]; exact hP, hD⟩, hS.F ht⟩) hS.2.2 dX12_canHold_85
      · have ts_48_0 : ¬ (((vF 80) rN)).toInt = 0 := toI_neq s_48_0 rfl (by decide)
        by_cases s_48_1 : ((vF 80) rN) = 1
        · have ts_48_1 : (((vF 80) rN)).toInt = 1 := toI_eq s_48_1 rfl (by decide)
          refine lv_tableIn (off := 38) (tgt := 86) hx hb dX12_canHold_48 (by rw [s_48_1]; decide) (by rw [s_48_1]; decide) (by rw [s_48_1]; decide) (by decide) ?_
          obtain ⟨⟨x5, hx5, ex5⟩, y5, hy5, ey5⟩ : (∃ x, x < hn ∧ vF 81 rN = nI x) ∧ ∃ x, x < hn ∧ vF 83 rN = nI x := by rcases hRV with h9 | h9 | h9; (exfalso; rw [s_48_1] at h9; revert h9; decide); (exact h9.2); (exfalso; (have h8 := h9.1); rw [s_48_1] at h8; exact absurd h8 (by decide))
          refine lv_aload_n hx hb dX12_canHold_86 rfl (lv_at hl 0 rfl) ?_
          refine lv_aload_n hx hb dX12_canHold_87 rfl (lv_at hl 0 rfl) ?_
          refine va_get (D := (dC, dI)) (ci := 12) (v := .ref (a 81)) (C := RX12) (T := TX12) (N := 163) (fs := fM (vS a vi vj)) hx hb hts iwsRX12_canHold_in12 hown hK hP 0 rfl rfl 133 (by decide) (hts (.fieldLink RX12 266 "OptimaWorksModel" "ruleA" "[I") (by decide +kernel)) (fun _ h9 => h9) rfl dX12_canHold_88 ?_
          refine lv_iload_n hx hb dX12_canHold_91 rfl (lv_at hl 1 rfl) ?_
          refine va_iald (cA := k 81) (n := 12) (f := (vF 81)) hx hb hK hP 82 81 (WR_get 81 (by decide)) (TR_get 81 (by decide)) (vp_in_nI (show rN < 12 by omega) (by omega)) dX12_canHold_92 ?_
          refine lv_topi (fun y3 hy3 => ?_)
          obtain rfl : ((vF 81) rN) = y3 := (hy3.trans (by rw [nI_clamp (by omega)])).symm
          refine lv_topi (fun y4 hy4 => ?_)
          obtain rfl : (nI x5) = y4 := (hy4.trans (ex5)).symm
          refine lv_aload_n hx hb dX12_canHold_93 rfl (lv_at hl 0 rfl) ?_
          refine va_get (D := (dC, dI)) (ci := 12) (v := .ref (a 82)) (C := RX12) (T := TX12) (N := 163) (fs := fM (vS a vi vj)) hx hb hts iwsRX12_canHold_in12 hown hK hP 0 rfl rfl 134 (by decide) (hts _ hm_r_X12_canHold_0) (fun _ h9 => h9) rfl dX12_canHold_94 ?_
          refine lv_iload_n hx hb dX12_canHold_97 rfl (lv_at hl 1 rfl) ?_
          refine va_iald (cA := k 82) (n := 12) (f := (vF 82)) hx hb hK hP 83 82 (WR_get 82 (by decide)) (TR_get 82 (by decide)) (vp_in_nI (show rN < 12 by omega) (by omega)) dX12_canHold_98 ?_
          refine lv_topi (fun y5 hy5 => ?_)
          obtain rfl : ((vF 82) rN) = y5 := (hy5.trans (by rw [nI_clamp (by omega)])).symm
          refine lv_aload_n hx hb dX12_canHold_99 rfl (lv_at hl 0 rfl) ?_
          refine va_get (D := (dC, dI)) (ci := 12) (v := .ref (a 83)) (C := RX12) (T := TX12) (N := 163) (fs := fM (vS a vi vj)) hx hb hts iwsRX12_canHold_in12 hown hK hP 0 rfl rfl 135 (by decide) (hts _ hm_r_X12_canHold_1) (fun _ h9 => h9) rfl dX12_canHold_100 ?_
          refine lv_iload_n hx hb dX12_canHold_103 rfl (lv_at hl 1 rfl) ?_
          refine va_iald (cA := k 83) (n := 12) (f := (vF 83)) hx hb hK hP 84 83 (WR_get 83 (by decide)) (TR_get 83 (by decide)) (vp_in_nI (show rN < 12 by omega) (by omega)) dX12_canHold_104 ?_
          refine lv_topi (fun y6 hy6 => ?_)
          obtain rfl : ((vF 83) rN) = y6 := (hy6.trans (by rw [nI_clamp (by omega)])).symm
          refine lv_topi (fun y7 hy7 => ?_)
          obtain rfl : (nI y5) = y7 := (hy7.trans (ey5)).symm
          have hFc := allFree hD hS hA
          refine va_calli (va_runV (As := [.int (nI x5), .int ((vF 82) rN), .int (nI y5)]) (rest := []) ⟨hx, hb, hml, hown, hts⟩ (r_X12_canOrder l dC dI a k h0 vi vj vF vG x5 ((vF 82) rN) y5 (by first | with_reducible assumption | decide | omega | rfl | assumption) (by first | with_reducible assumption | decide | omega | rfl | assumption) H.size) (cwV 3 hts gwsRX12_canHold_2 rfl rfl rfl hd_yX12_canOrder_RX12 (by decide +kernel)) (fz_pre (va_recv hK hP (ci := 12) (q0 := 0) rfl rfl) hP hK hD) rfl rfl hl.1 rfl (lv_room (Nat.le_of_ble_eq_true rfl)) dX12_canHold_105 (by decide +kernel)) hS (fun q _ h => hFc q h) hFc (fun r105 u t9_ H locs ht hvm hw9 hB9 hz1 hk1 hS => ?_)
          have hP : va_P (dC, dI) vwCl (WR a k h0 vi vj vF vG) H := fz_P ht hB9.1
          have hD := fz_sd hP (hB9.2.weaken (fun _ q _ h => hFc q.1 h)) rfl
          rcases hw9 with rfl | rfl
          · refine W.widen (k := 0) (n := 0) (by decide +kernel) (by decide +kernel) ?_
            have e9 : fT (fT (fT vF 87 (vF 87)) 88 (vF 88)) 89 (vF 89) = vF := (fT_id _ _ ((fT_ne _ _ (Nat.ne_of_beq_eq_false rfl)).trans (fT_ne _ _ (Nat.ne_of_beq_eq_false rfl)))).trans ((fT_id _ _ (fT_ne _ _ (Nat.ne_of_beq_eq_false rfl))).trans (fT_id _ _ (rfl)))
            have hP := wr_PF e9 hP
            have hD := wr_DF e9 hD
            clear e9
            exact W.zret (v := 1) hx hb hr rfl (fun t9_ ht hW => ⟨⟨1, ((vF 87), (vF 88), (vF 89)), rfl, by (try dsimp only); exact Or.inl rfl, by rw [ht]; exact hP, hD⟩, hS.F ht⟩) hS.2.2 dX12_canHold_108
          · refine W.widen (k := 0) (n := 0) (by decide +kernel) (by decide +kernel) ?_
            have e9 : fT (fT (fT vF 87 (vF 87)) 88 (vF 88)) 89 (vF 89) = vF := (fT_id _ _ ((fT_ne _ _ (Nat.ne_of_beq_eq_false rfl)).trans (fT_ne _ _ (Nat.ne_of_beq_eq_false rfl)))).trans ((fT_id _ _ (fT_ne _ _ (Nat.ne_of_beq_eq_false rfl))).trans (fT_id _ _ (rfl)))
            have hP := wr_PF e9 hP
            have hD := wr_DF e9 hD
            clear e9
            exact W.zret (v := 0) hx hb hr rfl (fun t9_ ht hW => ⟨⟨0, ((vF 87), (vF 88), (vF 89)), rfl, by (try dsimp only); exact Or.inr rfl, by rw [ht]; exact hP, hD⟩, hS.F ht⟩) hS.2.2 dX12_canHold_108
        · have ts_48_1 : ¬ (((vF 80) rN)).toInt = 1 := toI_neq s_48_1 rfl (by decide)
          by_cases s_48_2 : ((vF 80) rN) = 2
          · have ts_48_2 : (((vF 80) rN)).toInt = 2 := toI_eq s_48_2 rfl (by decide)
            refine lv_tableIn (off := 61) (tgt := 109) hx hb dX12_canHold_48 (by rw [s_48_2]; decide) (by rw [s_48_2]; decide) (by rw [s_48_2]; decide) (by decide) ?_
            refine lv_aload_n hx hb dX12_canHold_109 rfl (lv_at hl 0 rfl) ?_
            refine lv_iload_n hx hb dX12_canHold_110 rfl (lv_at hl 2 rfl) ?_
            refine lv_aload_n hx hb dX12_canHold_111 rfl (lv_at hl 0 rfl) ?_
            refine va_get (D := (dC, dI)) (ci := 12) (v := .ref (a 82)) (C := RX12) (T := TX12) (N := 163) (fs := fM (vS a vi vj)) hx hb hts iwsRX12_canHold_in12 hown hK hP 0 rfl rfl 134 (by decide) (hts _ hm_r_X12_canHold_0) (fun _ h9 => h9) rfl dX12_canHold_112 ?_
            refine lv_iload_n hx hb dX12_canHold_115 rfl (lv_at hl 1 rfl) ?_
            refine va_iald (cA := k 82) (n := 12) (f := (vF 82)) hx hb hK hP 83 82 (WR_get 82 (by decide)) (TR_get 82 (by decide)) (vp_in_nI (show rN < 12 by omega) (by omega)) dX12_canHold_116 ?_
            refine lv_topi (fun y8 hy8 => ?_)
            obtain rfl : ((vF 82) rN) = y8 := (hy8.trans (by rw [nI_clamp (by omega)])).symm
            refine lv_aload_n hx hb dX12_canHold_117 rfl (lv_at hl 0 rfl) ?_
            refine va_get (D := (dC, dI)) (ci := 12) (v := .ref (a 83)) (C := RX12) (T := TX12) (N := 163) (fs := fM (vS a vi vj)) hx hb hts iwsRX12_canHold_in12 hown hK hP 0 rfl rfl 135 (by decide) (hts _ hm_r_X12_canHold_1) (fun _ h9 => h9) rfl dX12_canHold_118 ?_
            refine lv_iload_n hx hb dX12_canHold_121 rfl (lv_at hl 1 rfl) ?_
            refine va_iald (cA := k 83) (n := 12) (f := (vF 83)) hx hb hK hP 84 83 (WR_get 83 (by decide)) (TR_get 83 (by decide)) (vp_in_nI (show rN < 12 by omega) (by omega)) dX12_canHold_122 ?_
            refine lv_topi (fun y9 hy9 => ?_)
            obtain rfl : ((vF 83) rN) = y9 := (hy9.trans (by rw [nI_clamp (by omega)])).symm
            have hFc := allFree hD hS hA
            refine va_calli (va_runV (As := [.int r2, .int ((vF 82) rN), .int ((vF 83) rN)]) (rest := []) ⟨hx, hb, hml, hown, hts⟩ (r_X12_canSum l dC dI a k h0 vi vj vF vG r2 ((vF 82) rN) ((vF 83) rN) hn hhn (by first | with_reducible assumption | decide | omega | rfl | assumption) H.size) (cwV 3 hts gwsRX12_canHold_3 rfl rfl rfl hd_yX12_canSum_RX12 (by decide +kernel)) (fz_pre (va_recv hK hP (ci := 12) (q0 := 0) rfl rfl) hP hK hD) rfl rfl hl.1 rfl (lv_room (Nat.le_of_ble_eq_true rfl)) dX12_canHold_123 (by decide +kernel)) hS (fun q _ h => hFc q h) hFc (fun r123 u t9_ H locs ht hvm hw9 hB9 hz1 hk1 hS => ?_)
            have hP : va_P (dC, dI) vwCl (WR a k h0 vi vj vF vG) H := fz_P ht hB9.1
            have hD := fz_sd hP (hB9.2.weaken (fun _ q _ h => hFc q.1 h)) rfl
            rcases hw9 with rfl | rfl
            · refine W.widen (k := 0) (n := 0) (by decide +kernel) (by decide +kernel) ?_
              have e9 : fT (fT (fT vF 87 (vF 87)) 88 (vF 88)) 89 (vF 89) = vF := (fT_id _ _ ((fT_ne _ _ (Nat.ne_of_beq_eq_false rfl)).trans (fT_ne _ _ (Nat.ne_of_beq_eq_false rfl)))).trans ((fT_id _ _ (fT_ne _ _ (Nat.ne_of_beq_eq_false rfl))).trans (fT_id _ _ (rfl)))
              have hP := wr_PF e9 hP
              have hD := wr_DF e9 hD
              clear e9
              exact W.zret (v := 1) hx hb hr rfl (fun t9_ ht hW => ⟨⟨1, ((vF 87), (vF 88), (vF 89)), rfl, by (try dsimp only); exact Or.inl rfl, by rw [ht]; exact hP, hD⟩, hS.F ht⟩) hS.2.2 dX12_canHold_126
            · refine W.widen (k := 0) (n := 0) (by decide +kernel) (by decide +kernel) ?_
              have e9 : fT (fT (fT vF 87 (vF 87)) 88 (vF 88)) 89 (vF 89) = vF := (fT_id _ _ ((fT_ne _ _ (Nat.ne_of_beq_eq_false rfl)).trans (fT_ne _ _ (Nat.ne_of_beq_eq_false rfl)))).trans ((fT_id _ _ (fT_ne _ _ (Nat.ne_of_beq_eq_false rfl))).trans (fT_id _ _ (rfl)))
              have hP := wr_PF e9 hP
              have hD := wr_DF e9 hD
              clear e9
              exact W.zret (v := 0) hx hb hr rfl (fun t9_ ht hW => ⟨⟨0, ((vF 87), (vF 88), (vF 89)), rfl, by (try dsimp only); exact Or.inr rfl, by rw [ht]; exact hP, hD⟩, hS.F ht⟩) hS.2.2 dX12_canHold_126
          · have ts_48_2 : ¬ (((vF 80) rN)).toInt = 2 := toI_neq s_48_2 rfl (by decide)
            by_cases s_48_3 : ((vF 80) rN) = 3
            · have ts_48_3 : (((vF 80) rN)).toInt = 3 := toI_eq s_48_3 rfl (by decide)
              refine lv_tableIn (off := 79) (tgt := 127) hx hb dX12_canHold_48 (by rw [s_48_3]; decide) (by rw [s_48_3]; decide) (by rw [s_48_3]; decide) (by decide) ?_
              refine lv_aload_n hx hb dX12_canHold_127 rfl (lv_at hl 0 rfl) ?_
              refine lv_iload_n hx hb dX12_canHold_128 rfl (lv_at hl 2 rfl) ?_
              refine lv_iconst (v := 1) hx hb dX12_canHold_129 (by decide) ?_
              refine lv_aload_n hx hb dX12_canHold_130 rfl (lv_at hl 0 rfl) ?_
              refine va_get (D := (dC, dI)) (ci := 12) (v := .ref (a 83)) (C := RX12) (T := TX12) (N := 163) (fs := fM (vS a vi vj)) hx hb hts iwsRX12_canHold_in12 hown hK hP 0 rfl rfl 135 (by decide) (hts _ hm_r_X12_canHold_1) (fun _ h9 => h9) rfl dX12_canHold_131 ?_
              refine lv_iload_n hx hb dX12_canHold_134 rfl (lv_at hl 1 rfl) ?_
              refine va_iald (cA := k 83) (n := 12) (f := (vF 83)) hx hb hK hP 84 83 (WR_get 83 (by decide)) (TR_get 83 (by decide)) (vp_in_nI (show rN < 12 by omega) (by omega)) dX12_canHold_135 ?_
              refine lv_topi (fun y10 hy10 => ?_)
              obtain rfl : ((vF 83) rN) = y10 := (hy10.trans (by rw [nI_clamp (by omega)])).symm
              refine lv_ishl hx hb dX12_canHold_136 ?_
              have hFc := allFree hD hS hA
              refine va_calli (va_runV (As := [.int r2, .int (1 <<< (((vF 83) rN) &&& 31))]) (rest := []) ⟨hx, hb, hml, hown, hts⟩ (r_X12_must l dC dI a k h0 vi vj vF vG r2 (1 <<< (((vF 83) rN) &&& 31)) hn hhn (by first | with_reducible assumption | decide | omega | rfl | assumption) H.size) (cwV 2 hts gwsRX12_canHold_4 rfl rfl rfl hd_yX12_must_RX12 (by decide +kernel)) (fz_pre (va_recv hK hP (ci := 12) (q0 := 0) rfl rfl) hP hK hD) rfl rfl hl.1 rfl (lv_room (Nat.le_of_ble_eq_true rfl)) dX12_canHold_137 (by decide +kernel)) hS (fun q _ h => hFc q h) hFc (fun r137 u t9_ H locs ht hvm hw9 hB9 hz1 hk1 hS => ?_)
              have hP : va_P (dC, dI) vwCl (WR a k h0 vi vj vF vG) H := fz_P ht hB9.1
              have hD := fz_sd hP (hB9.2.weaken (fun _ q _ h => hFc q.1 h)) rfl
              refine lv_aload_n hx hb dX12_canHold_140 rfl (lv_at hl 0 rfl) ?_
              refine va_get (D := (dC, dI)) (ci := 12) (v := .ref (a 82)) (C := RX12) (T := TX12) (N := 163) (fs := fM (vS a vi vj)) hx hb hts iwsRX12_canHold_in12 hown hK hP 0 rfl rfl 134 (by decide) (hts _ hm_r_X12_canHold_0) (fun _ h9 => h9) rfl dX12_canHold_141 ?_
              refine lv_iload_n hx hb dX12_canHold_144 rfl (lv_at hl 1 rfl) ?_
              refine va_iald (cA := k 82) (n := 12) (f := (vF 82)) hx hb hK hP 83 82 (WR_get 82 (by decide)) (TR_get 82 (by decide)) (vp_in_nI (show rN < 12 by omega) (by omega)) dX12_canHold_145 ?_
              refine lv_topi (fun y11 hy11 => ?_)
              obtain rfl : ((vF 82) rN) = y11 := (hy11.trans (by rw [nI_clamp (by omega)])).symm
              refine lv_icmp_gt (tgt := 153) hx hb dX12_canHold_146 (by decide) (fun c_146 => ?_) (fun c_146 => ?_)
              · have t_146 : (r137).toInt > (((vF 82) rN)).toInt := toI_gt c_146 rfl rfl
                refine lv_iconst (v := 0) hx hb dX12_canHold_153 (by decide) ?_
                refine W.widen (k := 0) (n := 0) (by decide +kernel) (by decide +kernel) ?_
                have e9 : fT (fT (fT vF 87 (vF 87)) 88 (vF 88)) 89 (vF 89) = vF := (fT_id _ _ ((fT_ne _ _ (Nat.ne_of_beq_eq_false rfl)).trans (fT_ne _ _ (Nat.ne_of_beq_eq_false rfl)))).trans ((fT_id _ _ (fT_ne _ _ (Nat.ne_of_beq_eq_false rfl))).trans (fT_id _ _ (rfl)))
                have hP := wr_PF e9 hP
                have hD := wr_DF e9 hD
                clear e9
                exact W.zret (v := 0) hx hb hr rfl (fun t9_ ht hW => ⟨⟨0, ((vF 87), (vF 88), (vF 89)), rfl, by (try dsimp only); exact Or.inr rfl, by rw [ht]; exact hP, hD⟩, hS.F ht⟩) hS.2.2 dX12_canHold_154
              · have t_146 : ¬ (r137).toInt > (((vF 82) rN)).toInt := toI_ngt c_146 rfl rfl
                refine lv_iconst (v := 1) hx hb dX12_canHold_149 (by decide) ?_
                refine lv_goto (tgt := 154) hx hb dX12_canHold_150 (by decide) ?_
                refine W.widen (k := 0) (n := 0) (by decide +kernel) (by decide +kernel) ?_
                have e9 : fT (fT (fT vF 87 (vF 87)) 88 (vF 88)) 89 (vF 89) = vF := (fT_id _ _ ((fT_ne _ _ (Nat.ne_of_beq_eq_false rfl)).trans (fT_ne _ _ (Nat.ne_of_beq_eq_false rfl)))).trans ((fT_id _ _ (fT_ne _ _ (Nat.ne_of_beq_eq_false rfl))).trans (fT_id _ _ (rfl)))
                have hP := wr_PF e9 hP
                have hD := wr_DF e9 hD
                clear e9
                exact W.zret (v := 1) hx hb hr rfl (fun t9_ ht hW => ⟨⟨1, ((vF 87), (vF 88), (vF 89)), rfl, by (try dsimp only); exact Or.inl rfl, by rw [ht]; exact hP, hD⟩, hS.F ht⟩) hS.2.2 dX12_canHold_154
            · have ts_48_3 : ¬ (((vF 80) rN)).toInt = 3 := toI_neq s_48_3 rfl (by decide)
              refine lv_tableOut (tgt := 155) hx hb dX12_canHold_48 (by have := lv_neT s_48_0 (show Int32.toInt 0 = 0 by decide); have := lv_neT s_48_1 (show Int32.toInt 1 = 1 by decide); have := lv_neT s_48_2 (show Int32.toInt 2 = 2 by decide); have := lv_neT s_48_3 (show Int32.toInt 3 = 3 by decide); omega) (by decide) ?_
              obtain ⟨⟨x5, hx5, ex5⟩, y5, hy5, ey5⟩ : (∃ x, x < hn ∧ vF 81 rN = nI x) ∧ ∃ x, x < hn ∧ vF 82 rN = nI x := by rcases hRV with h9 | h9 | h9; (exfalso; rcases h9 with h9 | h9 | h9; (exact s_48_0 h9); (exact s_48_2 h9); (exact s_48_3 h9)); (exact absurd h9.1 s_48_1); (exact h9.2)
              refine lv_aload_n hx hb dX12_canHold_155 rfl (lv_at hl 0 rfl) ?_
              refine lv_iload_n hx hb dX12_canHold_156 rfl (lv_at hl 1 rfl) ?_
              have hFc := allFree hD hS hA
              refine va_calli (va_runV (As := [.int (nI rN)]) (rest := []) ⟨hx, hb, hml, hown, hts⟩ (r_X12_canPair l dC dI a k h0 vi vj vF vG rN x5 y5 (by first | with_reducible assumption | decide | omega | rfl | assumption) (by first | with_reducible assumption | decide | omega | rfl | assumption) (by first | with_reducible assumption | decide | omega | rfl | assumption) (ex5) (ey5) H.size) (cwV 1 hts gwsRX12_canHold_5 rfl rfl rfl hd_yX12_canPair_RX12 (by decide +kernel)) (fz_pre (va_recv hK hP (ci := 12) (q0 := 0) rfl rfl) hP hK hD) rfl rfl hl.1 rfl (lv_room (Nat.le_of_ble_eq_true rfl)) dX12_canHold_157 (by decide +kernel)) hS (fun q _ h => hFc q h) hFc (fun r157 u t9_ H locs ht hvm hw9 hB9 hz1 hk1 hS => ?_)
              have hP : va_P (dC, dI) vwCl (WR a k h0 vi vj vF vG) H := fz_P ht hB9.1
              have hD := fz_sd hP (hB9.2.weaken (fun _ q _ h => hFc q.1 h)) rfl
              rcases hw9 with rfl | rfl
              · refine W.widen (k := 0) (n := 0) (by decide +kernel) (by decide +kernel) ?_
                have e9 : fT (fT (fT vF 87 (vF 87)) 88 (vF 88)) 89 (vF 89) = vF := (fT_id _ _ ((fT_ne _ _ (Nat.ne_of_beq_eq_false rfl)).trans (fT_ne _ _ (Nat.ne_of_beq_eq_false rfl)))).trans ((fT_id _ _ (fT_ne _ _ (Nat.ne_of_beq_eq_false rfl))).trans (fT_id _ _ (rfl)))
                have hP := wr_PF e9 hP
                have hD := wr_DF e9 hD
                clear e9
                exact W.zret (v := 1) hx hb hr rfl (fun t9_ ht hW => ⟨⟨1, ((vF 87), (vF 88), (vF 89)), rfl, by (try dsimp only); exact Or.inl rfl, by rw [ht]; exact hP, hD⟩, hS.F ht⟩) hS.2.2 dX12_canHold_160
              · refine W.widen (k := 0) (n := 0) (by decide +kernel) (by decide +kernel) ?_
                have e9 : fT (fT (fT vF 87 (vF 87)) 88 (vF 88)) 89 (vF 89) = vF := (fT_id _ _ ((fT_ne _ _ (Nat.ne_of_beq_eq_false rfl)).trans (fT_ne _ _ (Nat.ne_of_beq_eq_false rfl)))).trans ((fT_id _ _ (fT_ne _ _ (Nat.ne_of_beq_eq_false rfl))).trans (fT_id _ _ (rfl)))
                have hP := wr_PF e9 hP
                have hD := wr_DF e9 hD
                clear e9
                exact W.zret (v := 0) hx hb hr rfl (fun t9_ ht hW => ⟨⟨0, ((vF 87), (vF 88), (vF 89)), rfl, by (try dsimp only); exact Or.inr rfl, by rw [ht]; exact hP, hD⟩, hS.F ht⟩) hS.2.2 dX12_canHold_160
    · have t_13 : ¬ ((i5 : Nat) : Int) ≥ ((hn : Nat) : Int) := toI_nge c_13 (nI_toInt (by omega)) (nI_toInt (by omega))
      refine lv_iload_n hx hb dX12_canHold_16 rfl (lv_at hl 2 rfl) ?_
      refine lv_iload_n hx hb dX12_canHold_17 rfl (lv_at hl 3 rfl) ?_
      refine lv_ishr hx hb dX12_canHold_18 ?_
      refine lv_iconst (v := 1) hx hb dX12_canHold_19 (by decide) ?_
      refine lv_iand hx hb dX12_canHold_20 ?_
      refine lv_iconst (v := 1) hx hb dX12_canHold_21 (by decide) ?_
      refine lv_icmp_ne (tgt := 36) hx hb dX12_canHold_22 (by decide) (fun c_22 => ?_) (fun c_22 => ?_)
      · have t_22 : (((r2 >>> ((nI i5) &&& 31)) &&& 1)).toInt ≠ 1 := toI_ne c_22 rfl (by decide)
        refine lv_iinc (v := (nI (i5 + 1))) hx hb dX12_canHold_36 hl (k := 3) rfl (nI_add i5 1) (by decide) rfl (fun ls (hl : lv_has ls _ ([(3, .int (nI (i5 + 1))), (0, .ref h0), (1, .int (nI rN)), (2, .int r2)])) => ?_)
        refine lv_goto (tgt := 8) hx hb dX12_canHold_39 (by decide) ?_
        have hl : lv_has _ _ ([(0, .ref h0), (1, .int (nI rN)), (2, .int r2), (3, .int (nI (i5 + 1)))]) := lv_sub hl [1, 2, 3, 0] rfl
        exact ih8 (i5 + 1) _ _ _ (by omega) (by omega) hP hD hS hl
      · have t_22 : (((r2 >>> ((nI i5) &&& 31)) &&& 1)).toInt = 1 := toI_nne c_22 rfl (by decide)
        refine lv_aload_n hx hb dX12_canHold_25 rfl (lv_at hl 0 rfl) ?_
        refine va_get (D := (dC, dI)) (ci := 12) (v := .ref (a 86)) (C := RX12) (T := TX12) (N := 163) (fs := fM (vS a vi vj)) hx hb hts iwsRX12_canHold_in12 hown hK hP 0 rfl rfl 139 (by decide) (hts (.fieldLink RX12 281 "OptimaWorksModel" "with" "[I") (by decide +kernel)) (fun _ h9 => h9) rfl dX12_canHold_26 ?_
        refine lv_iload_n hx hb dX12_canHold_29 rfl (lv_at hl 3 rfl) ?_
        refine va_iald (cA := k 86) (n := 10) (f := (vF 86)) hx hb hK hP 87 86 (WR_get 86 (by decide)) (TR_get 86 (by decide)) (vp_in_nI (show i5 < 10 by omega) (by omega)) dX12_canHold_30 ?_
        refine lv_topi (fun y12 hy12 => ?_)
        obtain rfl : ((vF 86) i5) = y12 := (hy12.trans (by rw [nI_clamp (by omega)])).symm
        refine lv_if_ne (tgt := 36) hx hb dX12_canHold_31 (by decide) (fun c_31 => ?_) (fun c_31 => ?_)
        · have t_31 : (((vF 86) i5)).toInt ≠ 0 := toI_ne c_31 rfl (by decide)
          refine lv_iinc (v := (nI (i5 + 1))) hx hb dX12_canHold_36 hl (k := 3) rfl (nI_add i5 1) (by decide) rfl (fun ls (hl : lv_has ls _ ([(3, .int (nI (i5 + 1))), (0, .ref h0), (1, .int (nI rN)), (2, .int r2)])) => ?_)
          refine lv_goto (tgt := 8) hx hb dX12_canHold_39 (by decide) ?_
          have hl : lv_has _ _ ([(0, .ref h0), (1, .int (nI rN)), (2, .int r2), (3, .int (nI (i5 + 1)))]) := lv_sub hl [1, 2, 3, 0] rfl
          exact ih8 (i5 + 1) _ _ _ (by omega) (by omega) hP hD hS hl
        · have t_31 : (((vF 86) i5)).toInt = 0 := toI_nne c_31 rfl (by decide)
          refine lv_iconst (v := 0) hx hb dX12_canHold_34 (by decide) ?_
          refine W.widen (k := 0) (n := 0) (by decide +kernel) (by decide +kernel) ?_
          have e9 : fT (fT (fT vF 87 (vF 87)) 88 (vF 88)) 89 (vF 89) = vF := (fT_id _ _ ((fT_ne _ _ (Nat.ne_of_beq_eq_false rfl)).trans (fT_ne _ _ (Nat.ne_of_beq_eq_false rfl)))).trans ((fT_id _ _ (fT_ne _ _ (Nat.ne_of_beq_eq_false rfl))).trans (fT_id _ _ (rfl)))
          have hP := wr_PF e9 hP
          have hD := wr_DF e9 hD
          clear e9
          exact W.zret (v := 0) hx hb hr rfl (fun t9_ ht hW => ⟨⟨0, ((vF 87), (vF 88), (vF 89)), rfl, by (try dsimp only); exact Or.inr rfl, by rw [ht]; exact hP, hD⟩, hS.F ht⟩) hS.2.2 dX12_canHold_35
theorem dX12_supports_0 : decode cX12_supports 0 = .ok (.iconst 0, 1) := dk_3 (by decide +kernel)
theorem dX12_supports_1 : decode cX12_supports 1 = .ok (.istore 4, 2) := dk_54 (by decide +kernel)
theorem dX12_supports_3 : decode cX12_supports 3 = .ok (.iload 4, 2) := dk_21 (by decide +kernel)
theorem dX12_supports_5 : decode cX12_supports 5 = .ok (.aload_n 0, 1) := dk_42 (by decide +kernel)
theorem dX12_supports_6 : decode cX12_supports 6 = .ok (.getfield 978, 3) := dk_180 (by decide +kernel)
theorem dX12_supports_9 : decode cX12_supports 9 = .ok (.if_icmp .ge 35, 3) := dk_162 (by decide +kernel)
theorem dX12_supports_12 : decode cX12_supports 12 = .ok (.aload_n 0, 1) := dk_42 (by decide +kernel)
theorem dX12_supports_13 : decode cX12_supports 13 = .ok (.getfield 281, 3) := dk_180 (by decide +kernel)
theorem dX12_supports_16 : decode cX12_supports 16 = .ok (.iload 4, 2) := dk_21 (by decide +kernel)
theorem dX12_supports_18 : decode cX12_supports 18 = .ok (.iload 4, 2) := dk_21 (by decide +kernel)
theorem dX12_supports_20 : decode cX12_supports 20 = .ok (.iload_n 2, 1) := dk_28 (by decide +kernel)
theorem dX12_supports_21 : decode cX12_supports 21 = .ok (.if_icmp .ne 9, 3) := dk_160 (by decide +kernel)
theorem dX12_supports_24 : decode cX12_supports 24 = .ok (.iconst 1, 1) := dk_4 (by decide +kernel)
theorem dX12_supports_25 : decode cX12_supports 25 = .ok (.iload_n 3, 1) := dk_29 (by decide +kernel)
theorem dX12_supports_26 : decode cX12_supports 26 = .ok (.ishl, 1) := dk_120 (by decide +kernel)
theorem dX12_supports_27 : decode cX12_supports 27 = .ok (.goto 10, 3) := dk_167 (by decide +kernel)
theorem dX12_supports_30 : decode cX12_supports 30 = .ok (.aload_n 0, 1) := dk_42 (by decide +kernel)
theorem dX12_supports_31 : decode cX12_supports 31 = .ok (.getfield 260, 3) := dk_180 (by decide +kernel)
theorem dX12_supports_34 : decode cX12_supports 34 = .ok (.iload 4, 2) := dk_21 (by decide +kernel)
theorem dX12_supports_36 : decode cX12_supports 36 = .ok (.iaload, 1) := dk_46 (by decide +kernel)
theorem dX12_supports_37 : decode cX12_supports 37 = .ok (.iastore, 1) := dk_79 (by decide +kernel)
theorem dX12_supports_38 : decode cX12_supports 38 = .ok (.iinc 4 1, 3) := dk_132 (by decide +kernel)
theorem dX12_supports_41 : decode cX12_supports 41 = .ok (.goto (-38), 3) := dk_167 (by decide +kernel)
theorem dX12_supports_44 : decode cX12_supports 44 = .ok (.aload_n 0, 1) := dk_42 (by decide +kernel)
theorem dX12_supports_45 : decode cX12_supports 45 = .ok (.iload_n 1, 1) := dk_27 (by decide +kernel)
theorem dX12_supports_46 : decode cX12_supports 46 = .ok (.invokevirtual 1019, 3) := dk_182 (by decide +kernel)
theorem dX12_supports_49 : decode cX12_supports 49 = .ok (.ireturn, 1) := dk_172 (by decide +kernel)
def wsRX12_supports : List Cond := .code yX12_supports cX12_supports 5 (some .boolean) :: ([.fieldLink RX12 978 "OptimaWorksModel" "holders" "I", .fieldLink RX12 281 "OptimaWorksModel" "with" "[I", .fieldLink RX12 260 "OptimaWorksModel" "now" "[I"] ++ wsX120 ++ (wsV RX12 1019 RX12 yX12_canHold wsRX12_canHold))
theorem iwsRX12_supports_in12 : ∀ w ∈ wsX120, w ∈ wsRX12_supports := fun _ h => List.mem_cons_of_mem _ (List.mem_append_left _ (List.mem_append_right _ h))
theorem gwsRX12_supports_0 : GoodIn wsRX12_supports (wsV RX12 1019 RX12 yX12_canHold wsRX12_canHold) := goodIn_sub (fun _ h => List.mem_cons_of_mem _ (List.mem_append_right _ h)) (gdV (by decide +kernel) gdwsRX12_canHold)
theorem gdwsRX12_supports : wsRX12_supports.all goodWord = true := gdC rfl (gdA (gdA (by decide +kernel : ([.fieldLink RX12 978 "OptimaWorksModel" "holders" "I", .fieldLink RX12 281 "OptimaWorksModel" "with" "[I", .fieldLink RX12 260 "OptimaWorksModel" "now" "[I"] : List Cond).all goodWord = true) gdwsX120) (gdV (by decide +kernel) gdwsRX12_canHold))
set_option maxHeartbeats 4000000 in
set_option maxRecDepth 100000 in
/-- supports(r, h, v) -/
theorem r_X12_supports (l : Launch) (dC : Nat → ClassId) (dI : Nat → Nat → Nat) (a : Nat → Nat) (k : Nat → ClassId) (h0 : Nat) (vi : Nat → Int32) (vj : Nat → Int64) (vF : Nat → Nat → Int32) (vG : Nat → Nat → Int64) (rN : Nat) (hn : Nat) (hI : Int32) (vI : Int32) (hrN : rN < 12) (hhn : vi 128 = nI hn) (hhn10 : hn ≤ 10) (hRV : RulV (vF 80 rN) (vF 81 rN) (vF 82 rN) (vF 83 rN) hn) (sz : Nat) : Met l yX12_supports wsRX12_supports ({ frames := 4, cells := 0, slots := 0, locals := 96 }) (va_Pc [.ref h0, .int (nI rN), .int hI, .int vI] (fun U => U.heap.size = sz ∧ va_P (dC, dI) vwCl (WR a k h0 vi vj vF vG) U.heap ∧ va_K (dC, dI) vwCl (tX12 k) U ∧ va_D (fun _ => True) (WR a k h0 vi vj vF vG))) (va_Qi (fun (r : Int32) (u : (Nat → Int32) × (Nat → Int32) × (Nat → Int32) × (Nat → Int32)) => (r = 1) ∨ (r = 0)) (fun (u : (Nat → Int32) × (Nat → Int32) × (Nat → Int32) × (Nat → Int32)) t => va_P (dC, dI) vwCl (WR a k h0 vi vj (fT (fT (fT (fT vF 86 (u.1)) 87 (u.2.1)) 88 (u.2.2.1)) 89 (u.2.2.2)) vG) t.heap ∧ va_D (va_A (WR a k h0 vi vj vF vG) sz) (WR a k h0 vi vj (fT (fT (fT (fT vF 86 (u.1)) 87 (u.2.1)) 88 (u.2.2.1)) 89 (u.2.2.2)) vG)) (va_A (WR a k h0 vi vj vF vG) sz)) 0 0 (va_A (WR a k h0 vi vj vF vG) sz) := by
  refine Met.ofW (cc := cX12_supports) (maxL := 5) (ret := (some .boolean)) (by decide) rfl ?_
  intro p e s m args below meth c s₁ B hml hv
  obtain ⟨rfl, hsz, hP, hK, hD0⟩ := hv
  have hx := B.exec
  have hb := B.bytes
  have hr := B.returns
  have hts := atoms_spec (ws := wsRX12_supports) B.pre
  have hown : s.vm.findClass RX12 = some m.cls := findClass_of_methodNamed B.named
  have hlocks := B.notSynchronized
  subst hsz
  have hD := hD0.self (sz := s.heap.size)
  generalize hAe : va_A (WR a k h0 vi vj vF vG) s.heap.size = A at hD ⊢
  have hA : ∀ q : Nat, s.heap.size ≤ q → A q := fun q h => by rw [← hAe]; exact Or.inr h
  have hS : va_S A s.heap s.heap [] := va_S.rf
  have hl := lv_entry ([.ref h0, .int (nI rN), .int hI, .int vI]) (n := 5) (Nat.le_of_ble_eq_true rfl)
  rw [lg_entry_eq]
  generalize (lg_sl ([.ref h0, .int (nI rN), .int hI, .int vI]) ++ List.replicate (5 - (lg_sl ([.ref h0, .int (nI rN), .int hI, .int vI])).length) Slot.unset).toArray = ls at hl ⊢
  have hl : lv_has ls 5 [(0, .ref h0), (1, .int (nI rN)), (2, .int hI), (3, .int vI)] := hl
  refine lv_iconst (v := 0) hx hb dX12_supports_0 (by decide) ?_
  refine lv_istore hx hb dX12_supports_1 hl (by decide) rfl (fun ls (hl : lv_has ls _ ([(4, .int 0), (0, .ref h0), (1, .int (nI rN)), (2, .int hI), (3, .int vI)])) => ?_)
  have e9 : fT vF 86 (vF 86) = vF := by funext q9; by_cases h9_86 : q9 = 86; (subst h9_86; exact (fT_eq _ _ _).trans (Eq.trans (by first | with_reducible rfl | with_reducible assumption | (symm; with_reducible assumption) | rfl | assumption | (symm; assumption) | (subst_vars; rfl)) (Eq.refl _).symm)); exact (fT_ne _ _ h9_86).trans (Eq.refl _).symm
  have hP := wr_PF e9 hP
  have hD := wr_DF e9 hD
  clear e9
  have hl : lv_has _ _ ([(0, .ref h0), (1, .int (nI rN)), (2, .int hI), (3, .int vI), (4, .int (nI 0))]) := lv_sub hl [1, 2, 3, 4, 0] rfl
  refine (fun (loop : ∀ (n9 : Nat) (i5 : Nat) (x2_F86 : Nat → Int32) (H : Heap) (locs : List Loc) (ls : Array Slot), (i5 ≤ hn) →  (hn < i5 + n9) → va_P (dC, dI) vwCl (WR a k h0 vi vj (fT vF 86 x2_F86) vG) H → va_D A (WR a k h0 vi vj (fT vF 86 x2_F86) vG) → va_S A s.heap H locs → lv_has ls 5 [(0, .ref h0), (1, .int (nI rN)), (2, .int hI), (3, .int vI), (4, .int (nI i5))] → W p l e _ s m _ below meth c H locs 0 0 _ (F0 m 3 ls [])) => loop (hn + 1) 0 (vF 86) _ _ _ (by omega) (by omega) hP hD hS hl) ?_
  intro n9
  induction n9 with
  | zero => intro i5 x2_F86 H locs ls hi5 hf9; exact False.elim (by omega)
  | succ n9 ih3 =>
    intro i5 x2_F86 H locs ls hi5 hf3 hP hD hS hl
    refine lv_iload hx hb dX12_supports_3 (lv_at hl 4 rfl) ?_
    refine lv_aload_n hx hb dX12_supports_5 rfl (lv_at hl 0 rfl) ?_
    refine va_get (D := (dC, dI)) (ci := 12) (v := .int (vi 128)) (C := RX12) (T := TX12) (N := 163) (fs := fM (vS a vi vj)) hx hb hts iwsRX12_supports_in12 hown hK hP 0 rfl rfl 128 (by decide) (hts (.fieldLink RX12 978 "OptimaWorksModel" "holders" "I") (by decide +kernel)) (fun _ h9 => h9) rfl dX12_supports_6 ?_
    refine lv_topi (fun y1 hy1 => ?_)
    obtain rfl : (nI hn) = y1 := (hy1.trans (hhn)).symm
    refine lv_icmp_ge (tgt := 44) hx hb dX12_supports_9 (by decide) (fun c_9 => ?_) (fun c_9 => ?_)
    · have t_9 : ((i5 : Nat) : Int) ≥ ((hn : Nat) : Int) := toI_ge c_9 (nI_toInt (by omega)) (nI_toInt (by omega))
      refine lv_aload_n hx hb dX12_supports_44 rfl (lv_at hl 0 rfl) ?_
      refine lv_iload_n hx hb dX12_supports_45 rfl (lv_at hl 1 rfl) ?_
      have hFc := allFree hD hS hA
      refine va_calli (va_runV (As := [.int (nI rN)]) (rest := []) ⟨hx, hb, hml, hown, hts⟩ (r_X12_canHold l dC dI a k h0 vi vj (fT vF 86 x2_F86) vG rN hn (by first | with_reducible assumption | decide | omega | rfl | assumption) hhn (by first | with_reducible assumption | decide | omega | rfl | assumption) (hRV) H.size) (cwV 1 hts gwsRX12_supports_0 rfl rfl rfl hd_yX12_canHold_RX12 (by decide +kernel)) (fz_pre (va_recv hK hP (ci := 12) (q0 := 0) rfl rfl) hP hK hD) rfl rfl hl.1 rfl (lv_room (Nat.le_of_ble_eq_true rfl)) dX12_supports_46 (by decide +kernel)) hS (fun q _ h => hFc q h) hFc (fun r46 u t9_ H locs ht hvm hw9 hB9 hz1 hk1 hS => ?_)
      revert u hw9 hB9
      refine fz_p3 ?_
      intro g8746 g8846 g8946 hw9 hB9
      try dsimp only at hw9 hB9
      have hP : va_P (dC, dI) vwCl (WR a k h0 vi vj (fT (fT (fT (fT vF 86 x2_F86) 87 g8746) 88 g8846) 89 g8946) vG) H := fz_P ht hB9.1
      have hD := fz_sd hP (hB9.2.weaken (fun _ q _ h => hFc q.1 h)) rfl
      rcases hw9 with rfl | rfl
      · refine W.widen (k := 0) (n := 0) (by decide +kernel) (by decide +kernel) ?_
        exact W.zret (v := 1) hx hb hr rfl (fun t9_ ht hW => ⟨⟨1, (x2_F86, g8746, g8846, g8946), rfl, by (try dsimp only); exact Or.inl rfl, by rw [ht]; exact hP, hD⟩, hS.F ht⟩) hS.2.2 dX12_supports_49
      · refine W.widen (k := 0) (n := 0) (by decide +kernel) (by decide +kernel) ?_
        exact W.zret (v := 0) hx hb hr rfl (fun t9_ ht hW => ⟨⟨0, (x2_F86, g8746, g8846, g8946), rfl, by (try dsimp only); exact Or.inr rfl, by rw [ht]; exact hP, hD⟩, hS.F ht⟩) hS.2.2 dX12_supports_49
    · have t_9 : ¬ ((i5 : Nat) : Int) ≥ ((hn : Nat) : Int) := toI_nge c_9 (nI_toInt (by omega)) (nI_toInt (by omega))
      refine lv_aload_n hx hb dX12_supports_12 rfl (lv_at hl 0 rfl) ?_
      refine va_get (D := (dC, dI)) (ci := 12) (v := .ref (a 86)) (C := RX12) (T := TX12) (N := 163) (fs := fM (vS a vi vj)) hx hb hts iwsRX12_supports_in12 hown hK hP 0 rfl rfl 139 (by decide) (hts (.fieldLink RX12 281 "OptimaWorksModel" "with" "[I") (by decide +kernel)) (fun _ h9 => h9) rfl dX12_supports_13 ?_
      refine lv_iload hx hb dX12_supports_16 (lv_at hl 4 rfl) ?_
      refine lv_iload hx hb dX12_supports_18 (lv_at hl 4 rfl) ?_
      refine lv_iload_n hx hb dX12_supports_20 rfl (lv_at hl 2 rfl) ?_
      refine W.cut (pc := 37) (fun H locs ls stk => ∃ (j3_s0 : Int32),  stk = [.int j3_s0, .int (nI i5), .ref (a 86)] ∧ va_P (dC, dI) vwCl (WR a k h0 vi vj (fT vF 86 x2_F86) vG) H ∧ va_D A (WR a k h0 vi vj (fT vF 86 x2_F86) vG) ∧ va_S A s.heap H locs ∧ lv_has ls 5 [(0, .ref h0), (1, .int (nI rN)), (2, .int hI), (3, .int vI), (4, .int (nI i5))]) (fun join1 => ?_) ?_
      · refine lv_icmp_ne (tgt := 30) hx hb dX12_supports_21 (by decide) (fun c_21 => ?_) (fun c_21 => ?_)
        · have t_21 : ((i5 : Nat) : Int) ≠ (hI).toInt := toI_ne c_21 (nI_toInt (by omega)) rfl
          refine lv_aload_n hx hb dX12_supports_30 rfl (lv_at hl 0 rfl) ?_
          refine va_get (D := (dC, dI)) (ci := 12) (v := .ref (a 79)) (C := RX12) (T := TX12) (N := 163) (fs := fM (vS a vi vj)) hx hb hts iwsRX12_supports_in12 hown hK hP 0 rfl rfl 131 (by decide) (hts (.fieldLink RX12 260 "OptimaWorksModel" "now" "[I") (by decide +kernel)) (fun _ h9 => h9) rfl dX12_supports_31 ?_
          refine lv_iload hx hb dX12_supports_34 (lv_at hl 4 rfl) ?_
          refine va_iald (cA := k 79) (n := 10) (f := (vF 79)) hx hb hK hP 80 79 (WR_get 79 (by decide)) (TR_get 79 (by decide)) (vp_in_nI (show i5 < 10 by omega) (by omega)) dX12_supports_36 ?_
          refine lv_topi (fun y2 hy2 => ?_)
          obtain rfl : ((vF 79) i5) = y2 := (hy2.trans (by rw [nI_clamp (by omega)])).symm
          have hl : lv_has _ _ ([(0, .ref h0), (1, .int (nI rN)), (2, .int hI), (3, .int vI), (4, .int (nI i5))]) := lv_sub hl [0, 1, 2, 3, 4] rfl
          exact join1 _ _ _ _ ⟨((vF 79) i5), rfl, hP, hD, hS, hl⟩
        · have t_21 : ((i5 : Nat) : Int) = (hI).toInt := toI_nne c_21 (nI_toInt (by omega)) rfl
          refine lv_iconst (v := 1) hx hb dX12_supports_24 (by decide) ?_
          refine lv_iload_n hx hb dX12_supports_25 rfl (lv_at hl 3 rfl) ?_
          refine lv_ishl hx hb dX12_supports_26 ?_
          refine lv_goto (tgt := 37) hx hb dX12_supports_27 (by decide) ?_
          have hl : lv_has _ _ ([(0, .ref h0), (1, .int (nI rN)), (2, .int hI), (3, .int vI), (4, .int (nI i5))]) := lv_sub hl [0, 1, 2, 3, 4] rfl
          exact join1 _ _ _ _ ⟨(1 <<< (vI &&& 31)), rfl, hP, hD, hS, hl⟩
      · rintro H locs ls stk ⟨j3_s0, rfl, hP, hD, hS, hl⟩
        refine va_iast (cA := k 86) (n := 10) (f := x2_F86) hx hb hK hP hD hS 87 86 (WR_get 86 (by decide)) (TR_get 86 (by decide)) (vp_in_nI (show i5 < 10 by omega) (by omega)) dX12_supports_37 (fun H locs hP hD hS => ?_)
        have e9 : fT vF 86 (upd x2_F86 ((nI i5)).toNatClampNeg j3_s0) = fT (fT vF 86 x2_F86) 86 (upd x2_F86 ((nI i5)).toNatClampNeg j3_s0) := (fT_sm _ _ _ _).symm
        have hP := wr_PF e9 (fz_w (WR_F 86 (by decide) _ rfl) hP)
        have hD := wr_DF e9 (fz_wD (WR_F 86 (by decide) _ rfl) hD)
        clear e9
        refine lv_iinc (v := (nI (i5 + 1))) hx hb dX12_supports_38 hl (k := 4) rfl (nI_add i5 1) (by decide) rfl (fun ls (hl : lv_has ls _ ([(4, .int (nI (i5 + 1))), (0, .ref h0), (1, .int (nI rN)), (2, .int hI), (3, .int vI)])) => ?_)
        refine lv_goto (tgt := 3) hx hb dX12_supports_41 (by decide) ?_
        have hl : lv_has _ _ ([(0, .ref h0), (1, .int (nI rN)), (2, .int hI), (3, .int vI), (4, .int (nI (i5 + 1)))]) := lv_sub hl [1, 2, 3, 4, 0] rfl
        exact ih3 (i5 + 1) (upd x2_F86 ((nI i5)).toNatClampNeg j3_s0) _ _ _ (by omega) (by omega) hP hD hS hl
theorem dX12_leave_0 : decode cX12_leave 0 = .ok (.sipush 1023, 3) := dk_17 (by decide +kernel)
theorem dX12_leave_3 : decode cX12_leave 3 = .ok (.istore_n 1, 1) := dk_60 (by decide +kernel)
theorem dX12_leave_4 : decode cX12_leave 4 = .ok (.iload_n 1, 1) := dk_27 (by decide +kernel)
theorem dX12_leave_5 : decode cX12_leave 5 = .ok (.ifCond .eq 228, 3) := dk_153 (by decide +kernel)
theorem dX12_leave_8 : decode cX12_leave 8 = .ok (.iload_n 1, 1) := dk_27 (by decide +kernel)
theorem dX12_leave_9 : decode cX12_leave 9 = .ok (.istore_n 2, 1) := dk_61 (by decide +kernel)
theorem dX12_leave_10 : decode cX12_leave 10 = .ok (.iconst 0, 1) := dk_3 (by decide +kernel)
theorem dX12_leave_11 : decode cX12_leave 11 = .ok (.istore_n 1, 1) := dk_60 (by decide +kernel)
theorem dX12_leave_12 : decode cX12_leave 12 = .ok (.iconst 0, 1) := dk_3 (by decide +kernel)
theorem dX12_leave_13 : decode cX12_leave 13 = .ok (.istore_n 3, 1) := dk_62 (by decide +kernel)
theorem dX12_leave_14 : decode cX12_leave 14 = .ok (.iload_n 3, 1) := dk_29 (by decide +kernel)
theorem dX12_leave_15 : decode cX12_leave 15 = .ok (.aload_n 0, 1) := dk_42 (by decide +kernel)
theorem dX12_leave_16 : decode cX12_leave 16 = .ok (.getfield 990, 3) := dk_180 (by decide +kernel)
theorem dX12_leave_19 : decode cX12_leave 19 = .ok (.if_icmp .ge 136, 3) := dk_162 (by decide +kernel)
theorem dX12_leave_22 : decode cX12_leave 22 = .ok (.aload_n 0, 1) := dk_42 (by decide +kernel)
theorem dX12_leave_23 : decode cX12_leave 23 = .ok (.getfield 1022, 3) := dk_180 (by decide +kernel)
theorem dX12_leave_26 : decode cX12_leave 26 = .ok (.iload_n 3, 1) := dk_29 (by decide +kernel)
theorem dX12_leave_27 : decode cX12_leave 27 = .ok (.ishr, 1) := dk_122 (by decide +kernel)
theorem dX12_leave_28 : decode cX12_leave 28 = .ok (.iconst 1, 1) := dk_4 (by decide +kernel)
theorem dX12_leave_29 : decode cX12_leave 29 = .ok (.iand, 1) := dk_126 (by decide +kernel)
theorem dX12_leave_30 : decode cX12_leave 30 = .ok (.iconst 1, 1) := dk_4 (by decide +kernel)
theorem dX12_leave_31 : decode cX12_leave 31 = .ok (.if_icmp .eq 118, 3) := dk_159 (by decide +kernel)
theorem dX12_leave_34 : decode cX12_leave 34 = .ok (.aload_n 0, 1) := dk_42 (by decide +kernel)
theorem dX12_leave_35 : decode cX12_leave 35 = .ok (.iload_n 3, 1) := dk_29 (by decide +kernel)
theorem dX12_leave_36 : decode cX12_leave 36 = .ok (.invokevirtual 994, 3) := dk_182 (by decide +kernel)
theorem dX12_leave_39 : decode cX12_leave 39 = .ok (.iload_n 2, 1) := dk_28 (by decide +kernel)
theorem dX12_leave_40 : decode cX12_leave 40 = .ok (.iload_n 1, 1) := dk_27 (by decide +kernel)
theorem dX12_leave_41 : decode cX12_leave 41 = .ok (.ior, 1) := dk_128 (by decide +kernel)
theorem dX12_leave_42 : decode cX12_leave 42 = .ok (.iand, 1) := dk_126 (by decide +kernel)
theorem dX12_leave_43 : decode cX12_leave 43 = .ok (.ifCond .ne 6, 3) := dk_154 (by decide +kernel)
theorem dX12_leave_46 : decode cX12_leave 46 = .ok (.goto 103, 3) := dk_167 (by decide +kernel)
theorem dX12_leave_49 : decode cX12_leave 49 = .ok (.iconst 0, 1) := dk_3 (by decide +kernel)
theorem dX12_leave_50 : decode cX12_leave 50 = .ok (.istore 4, 2) := dk_54 (by decide +kernel)
theorem dX12_leave_52 : decode cX12_leave 52 = .ok (.iload 4, 2) := dk_21 (by decide +kernel)
theorem dX12_leave_54 : decode cX12_leave 54 = .ok (.aload_n 0, 1) := dk_42 (by decide +kernel)
theorem dX12_leave_55 : decode cX12_leave 55 = .ok (.getfield 978, 3) := dk_180 (by decide +kernel)
theorem dX12_leave_58 : decode cX12_leave 58 = .ok (.if_icmp .ge 91, 3) := dk_162 (by decide +kernel)
theorem dX12_leave_61 : decode cX12_leave 61 = .ok (.iconst 0, 1) := dk_3 (by decide +kernel)
theorem dX12_leave_62 : decode cX12_leave 62 = .ok (.istore 5, 2) := dk_54 (by decide +kernel)
theorem dX12_leave_64 : decode cX12_leave 64 = .ok (.iload 5, 2) := dk_21 (by decide +kernel)
theorem dX12_leave_66 : decode cX12_leave 66 = .ok (.bipush 16, 2) := dk_16 (by decide +kernel)
theorem dX12_leave_68 : decode cX12_leave 68 = .ok (.if_icmp .ge 75, 3) := dk_162 (by decide +kernel)
theorem dX12_leave_71 : decode cX12_leave 71 = .ok (.aload_n 0, 1) := dk_42 (by decide +kernel)
theorem dX12_leave_72 : decode cX12_leave 72 = .ok (.iload_n 3, 1) := dk_29 (by decide +kernel)
theorem dX12_leave_73 : decode cX12_leave 73 = .ok (.invokevirtual 994, 3) := dk_182 (by decide +kernel)
theorem dX12_leave_76 : decode cX12_leave 76 = .ok (.iload 4, 2) := dk_21 (by decide +kernel)
theorem dX12_leave_78 : decode cX12_leave 78 = .ok (.ishr, 1) := dk_122 (by decide +kernel)
theorem dX12_leave_79 : decode cX12_leave 79 = .ok (.iconst 1, 1) := dk_4 (by decide +kernel)
theorem dX12_leave_80 : decode cX12_leave 80 = .ok (.iand, 1) := dk_126 (by decide +kernel)
theorem dX12_leave_81 : decode cX12_leave 81 = .ok (.ifCond .eq 56, 3) := dk_153 (by decide +kernel)
theorem dX12_leave_84 : decode cX12_leave 84 = .ok (.aload_n 0, 1) := dk_42 (by decide +kernel)
theorem dX12_leave_85 : decode cX12_leave 85 = .ok (.getfield 260, 3) := dk_180 (by decide +kernel)
theorem dX12_leave_88 : decode cX12_leave 88 = .ok (.iload 4, 2) := dk_21 (by decide +kernel)
theorem dX12_leave_90 : decode cX12_leave 90 = .ok (.iaload, 1) := dk_46 (by decide +kernel)
theorem dX12_leave_91 : decode cX12_leave 91 = .ok (.iload 5, 2) := dk_21 (by decide +kernel)
theorem dX12_leave_93 : decode cX12_leave 93 = .ok (.ishr, 1) := dk_122 (by decide +kernel)
theorem dX12_leave_94 : decode cX12_leave 94 = .ok (.iconst 1, 1) := dk_4 (by decide +kernel)
theorem dX12_leave_95 : decode cX12_leave 95 = .ok (.iand, 1) := dk_126 (by decide +kernel)
theorem dX12_leave_96 : decode cX12_leave 96 = .ok (.ifCond .eq 41, 3) := dk_153 (by decide +kernel)
theorem dX12_leave_99 : decode cX12_leave 99 = .ok (.aload_n 0, 1) := dk_42 (by decide +kernel)
theorem dX12_leave_100 : decode cX12_leave 100 = .ok (.iload_n 3, 1) := dk_29 (by decide +kernel)
theorem dX12_leave_101 : decode cX12_leave 101 = .ok (.iload 4, 2) := dk_21 (by decide +kernel)
theorem dX12_leave_103 : decode cX12_leave 103 = .ok (.iload 5, 2) := dk_21 (by decide +kernel)
theorem dX12_leave_105 : decode cX12_leave 105 = .ok (.invokevirtual 1025, 3) := dk_182 (by decide +kernel)
theorem dX12_leave_108 : decode cX12_leave 108 = .ok (.ifCond .eq 6, 3) := dk_153 (by decide +kernel)
theorem dX12_leave_111 : decode cX12_leave 111 = .ok (.goto 26, 3) := dk_167 (by decide +kernel)
theorem dX12_leave_114 : decode cX12_leave 114 = .ok (.aload_n 0, 1) := dk_42 (by decide +kernel)
theorem dX12_leave_115 : decode cX12_leave 115 = .ok (.getfield 260, 3) := dk_180 (by decide +kernel)
theorem dX12_leave_118 : decode cX12_leave 118 = .ok (.iload 4, 2) := dk_21 (by decide +kernel)
theorem dX12_leave_120 : decode cX12_leave 120 = .ok (.dup2, 1) := dk_92 (by decide +kernel)
theorem dX12_leave_121 : decode cX12_leave 121 = .ok (.iaload, 1) := dk_46 (by decide +kernel)
theorem dX12_leave_122 : decode cX12_leave 122 = .ok (.iconst 1, 1) := dk_4 (by decide +kernel)
theorem dX12_leave_123 : decode cX12_leave 123 = .ok (.iload 5, 2) := dk_21 (by decide +kernel)
theorem dX12_leave_125 : decode cX12_leave 125 = .ok (.ishl, 1) := dk_120 (by decide +kernel)
theorem dX12_leave_126 : decode cX12_leave 126 = .ok (.iconst (-1), 1) := dk_2 (by decide +kernel)
theorem dX12_leave_127 : decode cX12_leave 127 = .ok (.ixor, 1) := dk_130 (by decide +kernel)
theorem dX12_leave_128 : decode cX12_leave 128 = .ok (.iand, 1) := dk_126 (by decide +kernel)
theorem dX12_leave_129 : decode cX12_leave 129 = .ok (.iastore, 1) := dk_79 (by decide +kernel)
theorem dX12_leave_130 : decode cX12_leave 130 = .ok (.iload_n 1, 1) := dk_27 (by decide +kernel)
theorem dX12_leave_131 : decode cX12_leave 131 = .ok (.iconst 1, 1) := dk_4 (by decide +kernel)
theorem dX12_leave_132 : decode cX12_leave 132 = .ok (.iload 4, 2) := dk_21 (by decide +kernel)
theorem dX12_leave_134 : decode cX12_leave 134 = .ok (.ishl, 1) := dk_120 (by decide +kernel)
theorem dX12_leave_135 : decode cX12_leave 135 = .ok (.ior, 1) := dk_128 (by decide +kernel)
theorem dX12_leave_136 : decode cX12_leave 136 = .ok (.istore_n 1, 1) := dk_60 (by decide +kernel)
theorem dX12_leave_137 : decode cX12_leave 137 = .ok (.iinc 5 1, 3) := dk_132 (by decide +kernel)
theorem dX12_leave_140 : decode cX12_leave 140 = .ok (.goto (-76), 3) := dk_167 (by decide +kernel)
theorem dX12_leave_143 : decode cX12_leave 143 = .ok (.iinc 4 1, 3) := dk_132 (by decide +kernel)
theorem dX12_leave_146 : decode cX12_leave 146 = .ok (.goto (-94), 3) := dk_167 (by decide +kernel)
theorem dX12_leave_149 : decode cX12_leave 149 = .ok (.iinc 3 1, 3) := dk_132 (by decide +kernel)
theorem dX12_leave_152 : decode cX12_leave 152 = .ok (.goto (-138), 3) := dk_167 (by decide +kernel)
theorem dX12_leave_155 : decode cX12_leave 155 = .ok (.iconst 0, 1) := dk_3 (by decide +kernel)
theorem dX12_leave_156 : decode cX12_leave 156 = .ok (.istore_n 3, 1) := dk_62 (by decide +kernel)
theorem dX12_leave_157 : decode cX12_leave 157 = .ok (.iconst 0, 1) := dk_3 (by decide +kernel)
theorem dX12_leave_158 : decode cX12_leave 158 = .ok (.istore 4, 2) := dk_54 (by decide +kernel)
theorem dX12_leave_160 : decode cX12_leave 160 = .ok (.iload 4, 2) := dk_21 (by decide +kernel)
theorem dX12_leave_162 : decode cX12_leave 162 = .ok (.aload_n 0, 1) := dk_42 (by decide +kernel)
theorem dX12_leave_163 : decode cX12_leave 163 = .ok (.getfield 978, 3) := dk_180 (by decide +kernel)
theorem dX12_leave_166 : decode cX12_leave 166 = .ok (.if_icmp .ge 29, 3) := dk_162 (by decide +kernel)
theorem dX12_leave_169 : decode cX12_leave 169 = .ok (.iload_n 3, 1) := dk_29 (by decide +kernel)
theorem dX12_leave_170 : decode cX12_leave 170 = .ok (.ifCond .ne 13, 3) := dk_154 (by decide +kernel)
theorem dX12_leave_173 : decode cX12_leave 173 = .ok (.aload_n 0, 1) := dk_42 (by decide +kernel)
theorem dX12_leave_174 : decode cX12_leave 174 = .ok (.getfield 260, 3) := dk_180 (by decide +kernel)
theorem dX12_leave_177 : decode cX12_leave 177 = .ok (.iload 4, 2) := dk_21 (by decide +kernel)
theorem dX12_leave_179 : decode cX12_leave 179 = .ok (.iaload, 1) := dk_46 (by decide +kernel)
theorem dX12_leave_180 : decode cX12_leave 180 = .ok (.ifCond .ne 7, 3) := dk_154 (by decide +kernel)
theorem dX12_leave_183 : decode cX12_leave 183 = .ok (.iconst 1, 1) := dk_4 (by decide +kernel)
theorem dX12_leave_184 : decode cX12_leave 184 = .ok (.goto 4, 3) := dk_167 (by decide +kernel)
theorem dX12_leave_187 : decode cX12_leave 187 = .ok (.iconst 0, 1) := dk_3 (by decide +kernel)
theorem dX12_leave_188 : decode cX12_leave 188 = .ok (.istore_n 3, 1) := dk_62 (by decide +kernel)
theorem dX12_leave_189 : decode cX12_leave 189 = .ok (.iinc 4 1, 3) := dk_132 (by decide +kernel)
theorem dX12_leave_192 : decode cX12_leave 192 = .ok (.goto (-32), 3) := dk_167 (by decide +kernel)
theorem dX12_leave_195 : decode cX12_leave 195 = .ok (.iconst 0, 1) := dk_3 (by decide +kernel)
theorem dX12_leave_196 : decode cX12_leave 196 = .ok (.istore 4, 2) := dk_54 (by decide +kernel)
theorem dX12_leave_198 : decode cX12_leave 198 = .ok (.iload 4, 2) := dk_21 (by decide +kernel)
theorem dX12_leave_200 : decode cX12_leave 200 = .ok (.aload_n 0, 1) := dk_42 (by decide +kernel)
theorem dX12_leave_201 : decode cX12_leave 201 = .ok (.getfield 978, 3) := dk_180 (by decide +kernel)
theorem dX12_leave_204 : decode cX12_leave 204 = .ok (.if_icmp .ge 21, 3) := dk_162 (by decide +kernel)
theorem dX12_leave_207 : decode cX12_leave 207 = .ok (.iload_n 3, 1) := dk_29 (by decide +kernel)
theorem dX12_leave_208 : decode cX12_leave 208 = .ok (.ifCond .eq 17, 3) := dk_153 (by decide +kernel)
theorem dX12_leave_211 : decode cX12_leave 211 = .ok (.aload_n 0, 1) := dk_42 (by decide +kernel)
theorem dX12_leave_212 : decode cX12_leave 212 = .ok (.getfield 260, 3) := dk_180 (by decide +kernel)
theorem dX12_leave_215 : decode cX12_leave 215 = .ok (.iload 4, 2) := dk_21 (by decide +kernel)
theorem dX12_leave_217 : decode cX12_leave 217 = .ok (.iconst 0, 1) := dk_3 (by decide +kernel)
theorem dX12_leave_218 : decode cX12_leave 218 = .ok (.iastore, 1) := dk_79 (by decide +kernel)
theorem dX12_leave_219 : decode cX12_leave 219 = .ok (.iinc 4 1, 3) := dk_132 (by decide +kernel)
theorem dX12_leave_222 : decode cX12_leave 222 = .ok (.goto (-24), 3) := dk_167 (by decide +kernel)
theorem dX12_leave_225 : decode cX12_leave 225 = .ok (.iload_n 3, 1) := dk_29 (by decide +kernel)
theorem dX12_leave_226 : decode cX12_leave 226 = .ok (.ifCond .eq 4, 3) := dk_153 (by decide +kernel)
theorem dX12_leave_229 : decode cX12_leave 229 = .ok (.return_, 1) := dk_177 (by decide +kernel)
theorem dX12_leave_230 : decode cX12_leave 230 = .ok (.goto (-226), 3) := dk_167 (by decide +kernel)
theorem dX12_leave_233 : decode cX12_leave 233 = .ok (.return_, 1) := dk_177 (by decide +kernel)
def wsRX12_leave : List Cond := .code yX12_leave cX12_leave 6 none :: ([.fieldLink RX12 990 "OptimaWorksModel" "rules" "I", .fieldLink RX12 978 "OptimaWorksModel" "holders" "I", .fieldLink RX12 260 "OptimaWorksModel" "now" "[I", .fieldLink RX12 1022 "OptimaWorksModel" "barred" "I"] ++ wsX120 ++ (wsV RX12 994 RX12 yX12_scope wsRX12_scope) ++ (wsV RX12 1025 RX12 yX12_supports wsRX12_supports))
theorem iwsRX12_leave_in12 : ∀ w ∈ wsX120, w ∈ wsRX12_leave := fun _ h => List.mem_cons_of_mem _ (List.mem_append_left _ (List.mem_append_left _ (List.mem_append_right _ h)))
theorem gwsRX12_leave_0 : GoodIn wsRX12_leave (wsV RX12 994 RX12 yX12_scope wsRX12_scope) := goodIn_sub (fun _ h => List.mem_cons_of_mem _ (List.mem_append_left _ (List.mem_append_right _ h))) (gdV (by decide +kernel) gdwsRX12_scope)
theorem gwsRX12_leave_1 : GoodIn wsRX12_leave (wsV RX12 1025 RX12 yX12_supports wsRX12_supports) := goodIn_sub (fun _ h => List.mem_cons_of_mem _ (List.mem_append_right _ h)) (gdV (by decide +kernel) gdwsRX12_supports)
theorem gdwsRX12_leave : wsRX12_leave.all goodWord = true := gdC rfl (gdA (gdA (gdA (by decide +kernel : ([.fieldLink RX12 990 "OptimaWorksModel" "rules" "I", .fieldLink RX12 978 "OptimaWorksModel" "holders" "I", .fieldLink RX12 260 "OptimaWorksModel" "now" "[I", .fieldLink RX12 1022 "OptimaWorksModel" "barred" "I"] : List Cond).all goodWord = true) gdwsX120) (gdV (by decide +kernel) gdwsRX12_scope)) (gdV (by decide +kernel) gdwsRX12_supports))
theorem hm_r_X12_leave_0 : (.fieldLink RX12 978 "OptimaWorksModel" "holders" "I" : Cond) ∈ wsRX12_leave := by decide +kernel
theorem hm_r_X12_leave_1 : (.fieldLink RX12 260 "OptimaWorksModel" "now" "[I" : Cond) ∈ wsRX12_leave := by decide +kernel
set_option maxHeartbeats 4000000 in
set_option maxRecDepth 100000 in
/-- leave() -/
theorem r_X12_leave (l : Launch) (dC : Nat → ClassId) (dI : Nat → Nat → Nat) (a : Nat → Nat) (k : Nat → ClassId) (h0 : Nat) (vi : Nat → Int32) (vj : Nat → Int64) (vF : Nat → Nat → Int32) (vG : Nat → Nat → Int64) (hn : Nat) (ru : Nat) (hhn : vi 128 = nI hn) (hhn10 : hn ≤ 10) (hru : vi 129 = nI ru) (hru12 : ru ≤ 12) (hRu : RuO (vF 80) (vF 81) (vF 82) (vF 83) hn ru) (hNw : DoO (vF 79) hn) (sz : Nat) : Met l yX12_leave wsRX12_leave ({ frames := 5, cells := 0, slots := 0, locals := 120 }) (va_Pc [.ref h0] (fun U => U.heap.size = sz ∧ va_P (dC, dI) vwCl (WR a k h0 vi vj vF vG) U.heap ∧ va_K (dC, dI) vwCl (tX12 k) U ∧ va_D (fun _ => True) (WR a k h0 vi vj vF vG))) (va_Qv (fun (u : (Nat → Int32) × (Nat → Int32) × (Nat → Int32) × (Nat → Int32) × (Nat → Int32)) => (DoO (u.1) hn)) (fun (u : (Nat → Int32) × (Nat → Int32) × (Nat → Int32) × (Nat → Int32) × (Nat → Int32)) t => va_P (dC, dI) vwCl (WR a k h0 vi vj (fT (fT (fT (fT (fT vF 79 (u.1)) 86 (u.2.1)) 87 (u.2.2.1)) 88 (u.2.2.2.1)) 89 (u.2.2.2.2)) vG) t.heap ∧ va_D (va_A (WR a k h0 vi vj vF vG) sz) (WR a k h0 vi vj (fT (fT (fT (fT (fT vF 79 (u.1)) 86 (u.2.1)) 87 (u.2.2.1)) 88 (u.2.2.2.1)) 89 (u.2.2.2.2)) vG)) (va_A (WR a k h0 vi vj vF vG) sz)) 0 0 (va_A (WR a k h0 vi vj vF vG) sz) := by
  refine Met.ofW (cc := cX12_leave) (maxL := 6) (ret := none) (by decide) rfl ?_
  intro p e s m args below meth c s₁ B hml hv
  obtain ⟨rfl, hsz, hP, hK, hD0⟩ := hv
  have hx := B.exec
  have hb := B.bytes
  have hr := B.returns
  have hts := atoms_spec (ws := wsRX12_leave) B.pre
  have hown : s.vm.findClass RX12 = some m.cls := findClass_of_methodNamed B.named
  have hlocks := B.notSynchronized
  subst hsz
  have hD := hD0.self (sz := s.heap.size)
  generalize hAe : va_A (WR a k h0 vi vj vF vG) s.heap.size = A at hD ⊢
  have hA : ∀ q : Nat, s.heap.size ≤ q → A q := fun q h => by rw [← hAe]; exact Or.inr h
  have hS : va_S A s.heap s.heap [] := va_S.rf
  have hl := lv_entry ([.ref h0]) (n := 6) (Nat.le_of_ble_eq_true rfl)
  rw [lg_entry_eq]
  generalize (lg_sl ([.ref h0]) ++ List.replicate (6 - (lg_sl ([.ref h0])).length) Slot.unset).toArray = ls at hl ⊢
  have hl : lv_has ls 6 [(0, .ref h0)] := hl
  refine lv_sipush (v := 1023) hx hb dX12_leave_0 (by decide) ?_
  refine lv_istore_n hx hb dX12_leave_3 rfl hl (by decide) rfl (fun ls (hl : lv_has ls _ ([(1, .int 1023), (0, .ref h0)])) => ?_)
  have e9 : fT (fT (fT (fT (fT vF 79 (vF 79)) 86 (vF 86)) 87 (vF 87)) 88 (vF 88)) 89 (vF 89) = vF := Eq.trans (mv_4 rfl) (Eq.trans (id_4 rfl) (Eq.trans (mv_3 rfl) (Eq.trans (id_3 rfl) (Eq.trans (mv_2 rfl) (Eq.trans (id_2 rfl) (Eq.trans (mv_1 rfl) (Eq.trans (id_1 rfl) (id_0 rfl))))))))
  have hP := wr_PF e9 hP
  have hD := wr_DF e9 hD
  clear e9
  have hl : lv_has _ _ ([(0, .ref h0), (1, .int 1023)]) := lv_sub hl [1, 0] rfl
  refine (fun (loop : ∀ (n9 : Nat) (ch : Int32) (nw : Nat → Int32) (x10_F86 : Nat → Int32) (x10_F87 : Nat → Int32) (x10_F88 : Nat → Int32) (x10_F89 : Nat → Int32) (H : Heap) (locs : List Loc) (ls : Array Slot), (DoO nw hn) →  ((ch = 0 ∧ 0 < n9) ∨ sumN hn (cD nw) + 1 < n9) → va_P (dC, dI) vwCl (WR a k h0 vi vj (fT (fT (fT (fT (fT vF 79 nw) 86 x10_F86) 87 x10_F87) 88 x10_F88) 89 x10_F89) vG) H → va_D A (WR a k h0 vi vj (fT (fT (fT (fT (fT vF 79 nw) 86 x10_F86) 87 x10_F87) 88 x10_F88) 89 x10_F89) vG) → va_S A s.heap H locs → lv_has ls 6 [(0, .ref h0), (1, .int ch)] → W p l e _ s m _ below meth c H locs 0 0 _ (F0 m 4 ls [])) => loop (sumN hn (cD (vF 79)) + 2) 1023 (vF 79) (vF 86) (vF 87) (vF 88) (vF 89) _ _ _ (hNw) (Or.inr (by omega)) hP hD hS hl) ?_
  intro n9
  induction n9 with
  | zero => intro ch nw x10_F86 x10_F87 x10_F88 x10_F89 H locs ls hNn hf9; exact False.elim (by omega)
  | succ n9 ih4 =>
    intro ch nw x10_F86 x10_F87 x10_F88 x10_F89 H locs ls hNn hf4 hP hD hS hl
    have hf9 := hf4
    refine lv_iload_n hx hb dX12_leave_4 rfl (lv_at hl 1 rfl) ?_
    refine lv_if_eq (tgt := 233) hx hb dX12_leave_5 (by decide) (fun c_5 => ?_) (fun c_5 => ?_)
    · have t_5 : (ch).toInt = 0 := toI_eq c_5 rfl (by decide)
      refine W.widen (k := 0) (n := 0) (by decide +kernel) (by decide +kernel) ?_
      exact W.vret hx hb hr (fun t9_ ht hW => ⟨⟨(nw, x10_F86, x10_F87, x10_F88, x10_F89), rfl, by (try dsimp only); exact hNn, by rw [ht]; exact hP, hD⟩, hS.F ht⟩) hS.2.2 dX12_leave_233
    · have t_5 : ¬ (ch).toInt = 0 := toI_neq c_5 rfl (by decide)
      refine lv_iload_n hx hb dX12_leave_8 rfl (lv_at hl 1 rfl) ?_
      refine lv_istore_n hx hb dX12_leave_9 rfl hl (by decide) rfl (fun ls (hl : lv_has ls _ ([(2, .int ch), (0, .ref h0), (1, .int ch)])) => ?_)
      refine lv_iconst (v := 0) hx hb dX12_leave_10 (by decide) ?_
      refine lv_istore_n hx hb dX12_leave_11 rfl hl (by decide) rfl (fun ls (hl : lv_has ls _ ([(1, .int 0), (2, .int ch), (0, .ref h0)])) => ?_)
      refine lv_iconst (v := 0) hx hb dX12_leave_12 (by decide) ?_
      refine lv_istore_n hx hb dX12_leave_13 rfl hl (by decide) rfl (fun ls (hl : lv_has ls _ ([(3, .int 0), (1, .int 0), (2, .int ch), (0, .ref h0)])) => ?_)
      have hl : lv_has _ _ ([(0, .ref h0), (1, .int 0), (2, .int ch), (3, .int (nI 0))]) := lv_sub hl [3, 1, 2, 0] rfl
      refine (fun (loop : ∀ (n9 : Nat) (c1 : Int32) (nw1 : Nat → Int32) (r5 : Nat) (x15_F86 : Nat → Int32) (x15_F87 : Nat → Int32) (x15_F88 : Nat → Int32) (x15_F89 : Nat → Int32) (H : Heap) (locs : List Loc) (ls : Array Slot), (r5 ≤ ru) → (DoO nw1 hn) → ((c1 = 0 ∧ sumN hn (cD nw1) ≤ sumN hn (cD nw)) ∨ sumN hn (cD nw1) < sumN hn (cD nw)) →  (ru < r5 + n9) → va_P (dC, dI) vwCl (WR a k h0 vi vj (fT (fT (fT (fT (fT vF 79 nw1) 86 x15_F86) 87 x15_F87) 88 x15_F88) 89 x15_F89) vG) H → va_D A (WR a k h0 vi vj (fT (fT (fT (fT (fT vF 79 nw1) 86 x15_F86) 87 x15_F87) 88 x15_F88) 89 x15_F89) vG) → va_S A s.heap H locs → lv_has ls 6 [(0, .ref h0), (1, .int c1), (2, .int ch), (3, .int (nI r5))] → W p l e _ s m _ below meth c H locs 0 0 _ (F0 m 14 ls [])) => loop (ru + 1) 0 nw 0 x10_F86 x10_F87 x10_F88 x10_F89 _ _ _ (by omega) (hNn) (Or.inl ⟨rfl, Nat.le_refl _⟩) (by omega) hP hD hS hl) ?_
      intro n9
      induction n9 with
      | zero => intro c1 nw1 r5 x15_F86 x15_F87 x15_F88 x15_F89 H locs ls hr5 hN1 hM1 hf9; exact False.elim (by omega)
      | succ n9 ih14_1 =>
        intro c1 nw1 r5 x15_F86 x15_F87 x15_F88 x15_F89 H locs ls hr5 hN1 hM1 hf14_1 hP hD hS hl
        refine lv_iload_n hx hb dX12_leave_14 rfl (lv_at hl 3 rfl) ?_
        refine lv_aload_n hx hb dX12_leave_15 rfl (lv_at hl 0 rfl) ?_
        refine va_get (D := (dC, dI)) (ci := 12) (v := .int (vi 129)) (C := RX12) (T := TX12) (N := 163) (fs := fM (vS a vi vj)) hx hb hts iwsRX12_leave_in12 hown hK hP 0 rfl rfl 129 (by decide) (hts (.fieldLink RX12 990 "OptimaWorksModel" "rules" "I") (by decide +kernel)) (fun _ h9 => h9) rfl dX12_leave_16 ?_
        refine lv_topi (fun y1 hy1 => ?_)
        obtain rfl : (nI ru) = y1 := (hy1.trans (hru)).symm
        refine lv_icmp_ge (tgt := 155) hx hb dX12_leave_19 (by decide) (fun c_19 => ?_) (fun c_19 => ?_)
        · have t_19 : ((r5 : Nat) : Int) ≥ ((ru : Nat) : Int) := toI_ge c_19 (nI_toInt (by omega)) (nI_toInt (by omega))
          refine lv_iconst (v := 0) hx hb dX12_leave_155 (by decide) ?_
          refine lv_istore_n hx hb dX12_leave_156 rfl hl (by decide) rfl (fun ls (hl : lv_has ls _ ([(3, .int 0), (0, .ref h0), (1, .int c1), (2, .int ch)])) => ?_)
          refine lv_iconst (v := 0) hx hb dX12_leave_157 (by decide) ?_
          refine lv_istore hx hb dX12_leave_158 hl (by decide) rfl (fun ls (hl : lv_has ls _ ([(4, .int 0), (3, .int 0), (0, .ref h0), (1, .int c1), (2, .int ch)])) => ?_)
          have hl : lv_has _ _ ([(0, .ref h0), (1, .int c1), (3, .int 0), (4, .int (nI 0))]) := lv_sub hl [2, 3, 1, 0] rfl
          refine (fun (loop : ∀ (n9 : Nat) (h6 : Nat) (no : Int32) (H : Heap) (locs : List Loc) (ls : Array Slot), (h6 ≤ hn) →  (hn < h6 + n9) → va_P (dC, dI) vwCl (WR a k h0 vi vj (fT (fT (fT (fT (fT vF 79 nw1) 86 x15_F86) 87 x15_F87) 88 x15_F88) 89 x15_F89) vG) H → va_D A (WR a k h0 vi vj (fT (fT (fT (fT (fT vF 79 nw1) 86 x15_F86) 87 x15_F87) 88 x15_F88) 89 x15_F89) vG) → va_S A s.heap H locs → lv_has ls 6 [(0, .ref h0), (1, .int c1), (3, .int no), (4, .int (nI h6))] → W p l e _ s m _ below meth c H locs 0 0 _ (F0 m 160 ls [])) => loop (hn + 1) 0 0 _ _ _ (by omega) (by omega) hP hD hS hl) ?_
          intro n9
          induction n9 with
          | zero => intro h6 no H locs ls hh6 hf9; exact False.elim (by omega)
          | succ n9 ih160_2 =>
            intro h6 no H locs ls hh6 hf160_2 hP hD hS hl
            refine lv_iload hx hb dX12_leave_160 (lv_at hl 3 rfl) ?_
            refine lv_aload_n hx hb dX12_leave_162 rfl (lv_at hl 0 rfl) ?_
            refine va_get (D := (dC, dI)) (ci := 12) (v := .int (vi 128)) (C := RX12) (T := TX12) (N := 163) (fs := fM (vS a vi vj)) hx hb hts iwsRX12_leave_in12 hown hK hP 0 rfl rfl 128 (by decide) (hts _ hm_r_X12_leave_0) (fun _ h9 => h9) rfl dX12_leave_163 ?_
            refine lv_topi (fun y2 hy2 => ?_)
            obtain rfl : (nI hn) = y2 := (hy2.trans (hhn)).symm
            refine lv_icmp_ge (tgt := 195) hx hb dX12_leave_166 (by decide) (fun c_166 => ?_) (fun c_166 => ?_)
            · have t_166 : ((h6 : Nat) : Int) ≥ ((hn : Nat) : Int) := toI_ge c_166 (nI_toInt (by omega)) (nI_toInt (by omega))
              refine lv_iconst (v := 0) hx hb dX12_leave_195 (by decide) ?_
              refine lv_istore hx hb dX12_leave_196 hl (by decide) rfl (fun ls (hl : lv_has ls _ ([(4, .int 0), (0, .ref h0), (1, .int c1), (3, .int no)])) => ?_)
              have hl : lv_has _ _ ([(0, .ref h0), (1, .int c1), (3, .int no), (4, .int (nI 0))]) := lv_sub hl [1, 2, 3, 0] rfl
              refine (fun (loop : ∀ (n9 : Nat) (h7 : Nat) (nw5 : Nat → Int32) (H : Heap) (locs : List Loc) (ls : Array Slot), (h7 ≤ hn) → (no = 0 → nw5 = nw1) → (DoO nw5 hn) →  (hn < h7 + n9) → va_P (dC, dI) vwCl (WR a k h0 vi vj (fT (fT (fT (fT (fT vF 79 nw5) 86 x15_F86) 87 x15_F87) 88 x15_F88) 89 x15_F89) vG) H → va_D A (WR a k h0 vi vj (fT (fT (fT (fT (fT vF 79 nw5) 86 x15_F86) 87 x15_F87) 88 x15_F88) 89 x15_F89) vG) → va_S A s.heap H locs → lv_has ls 6 [(0, .ref h0), (1, .int c1), (3, .int no), (4, .int (nI h7))] → W p l e _ s m _ below meth c H locs 0 0 _ (F0 m 198 ls [])) => loop (hn + 1) 0 nw1 _ _ _ (by omega) (fun _ => rfl) (hN1) (by omega) hP hD hS hl) ?_
              intro n9
              induction n9 with
              | zero => intro h7 nw5 H locs ls hh7 hno hN5 hf9; exact False.elim (by omega)
              | succ n9 ih198_3 =>
                intro h7 nw5 H locs ls hh7 hno hN5 hf198_3 hP hD hS hl
                refine lv_iload hx hb dX12_leave_198 (lv_at hl 3 rfl) ?_
                refine lv_aload_n hx hb dX12_leave_200 rfl (lv_at hl 0 rfl) ?_
                refine va_get (D := (dC, dI)) (ci := 12) (v := .int (vi 128)) (C := RX12) (T := TX12) (N := 163) (fs := fM (vS a vi vj)) hx hb hts iwsRX12_leave_in12 hown hK hP 0 rfl rfl 128 (by decide) (hts _ hm_r_X12_leave_0) (fun _ h9 => h9) rfl dX12_leave_201 ?_
                refine lv_topi (fun y3 hy3 => ?_)
                obtain rfl : (nI hn) = y3 := (hy3.trans (hhn)).symm
                refine lv_icmp_ge (tgt := 225) hx hb dX12_leave_204 (by decide) (fun c_204 => ?_) (fun c_204 => ?_)
                · have t_204 : ((h7 : Nat) : Int) ≥ ((hn : Nat) : Int) := toI_ge c_204 (nI_toInt (by omega)) (nI_toInt (by omega))
                  refine lv_iload_n hx hb dX12_leave_225 rfl (lv_at hl 2 rfl) ?_
                  refine lv_if_eq (tgt := 230) hx hb dX12_leave_226 (by decide) (fun c_226 => ?_) (fun c_226 => ?_)
                  · have t_226 : (no).toInt = 0 := toI_eq c_226 rfl (by decide)
                    refine lv_goto (tgt := 4) hx hb dX12_leave_230 (by decide) ?_
                    have hl : lv_has _ _ ([(0, .ref h0), (1, .int c1)]) := lv_sub hl [0, 1] rfl
                    exact ih4 c1 nw5 x15_F86 x15_F87 x15_F88 x15_F89 _ _ _ (by rw [hno c_226]; exact hN1) (by rw [hno c_226]; (have h8 := hf9.resolve_left (fun h => c_5 h.1)); rcases hM1 with ⟨h1, h2⟩ | h1; (exact Or.inl ⟨h1, by omega⟩); (exact Or.inr (by omega))) hP hD hS hl
                  · have t_226 : ¬ (no).toInt = 0 := toI_neq c_226 rfl (by decide)
                    refine W.widen (k := 0) (n := 0) (by decide +kernel) (by decide +kernel) ?_
                    exact W.vret hx hb hr (fun t9_ ht hW => ⟨⟨(nw5, x15_F86, x15_F87, x15_F88, x15_F89), rfl, by (try dsimp only); exact hN5, by rw [ht]; exact hP, hD⟩, hS.F ht⟩) hS.2.2 dX12_leave_229
                · have t_204 : ¬ ((h7 : Nat) : Int) ≥ ((hn : Nat) : Int) := toI_nge c_204 (nI_toInt (by omega)) (nI_toInt (by omega))
                  refine lv_iload_n hx hb dX12_leave_207 rfl (lv_at hl 2 rfl) ?_
                  refine lv_if_eq (tgt := 225) hx hb dX12_leave_208 (by decide) (fun c_208 => ?_) (fun c_208 => ?_)
                  · have t_208 : (no).toInt = 0 := toI_eq c_208 rfl (by decide)
                    refine lv_iload_n hx hb dX12_leave_225 rfl (lv_at hl 2 rfl) ?_
                    refine lv_if_eq (tgt := 230) hx hb dX12_leave_226 (by decide) (fun c_226 => ?_) (fun c_226 => ?_)
                    · have t_226 : (no).toInt = 0 := toI_eq c_226 rfl (by decide)
                      refine lv_goto (tgt := 4) hx hb dX12_leave_230 (by decide) ?_
                      have hl : lv_has _ _ ([(0, .ref h0), (1, .int c1)]) := lv_sub hl [0, 1] rfl
                      exact ih4 c1 nw5 x15_F86 x15_F87 x15_F88 x15_F89 _ _ _ (by rw [hno c_226]; exact hN1) (by rw [hno c_226]; (have h8 := hf9.resolve_left (fun h => c_5 h.1)); rcases hM1 with ⟨h1, h2⟩ | h1; (exact Or.inl ⟨h1, by omega⟩); (exact Or.inr (by omega))) hP hD hS hl
                    · have t_226 : ¬ (no).toInt = 0 := toI_neq c_226 rfl (by decide)
                      refine W.widen (k := 0) (n := 0) (by decide +kernel) (by decide +kernel) ?_
                      exact W.vret hx hb hr (fun t9_ ht hW => ⟨⟨(nw5, x15_F86, x15_F87, x15_F88, x15_F89), rfl, by (try dsimp only); exact hN5, by rw [ht]; exact hP, hD⟩, hS.F ht⟩) hS.2.2 dX12_leave_229
                  · have t_208 : ¬ (no).toInt = 0 := toI_neq c_208 rfl (by decide)
                    refine lv_aload_n hx hb dX12_leave_211 rfl (lv_at hl 0 rfl) ?_
                    refine va_get (D := (dC, dI)) (ci := 12) (v := .ref (a 79)) (C := RX12) (T := TX12) (N := 163) (fs := fM (vS a vi vj)) hx hb hts iwsRX12_leave_in12 hown hK hP 0 rfl rfl 131 (by decide) (hts _ hm_r_X12_leave_1) (fun _ h9 => h9) rfl dX12_leave_212 ?_
                    refine lv_iload hx hb dX12_leave_215 (lv_at hl 3 rfl) ?_
                    refine lv_iconst (v := 0) hx hb dX12_leave_217 (by decide) ?_
                    refine va_iast (cA := k 79) (n := 10) (f := nw5) hx hb hK hP hD hS 80 79 (WR_get 79 (by decide)) (TR_get 79 (by decide)) (vp_in_nI (show h7 < 10 by omega) (by omega)) dX12_leave_218 (fun H locs hP hD hS => ?_)
                    have e9 : fT (fT (fT (fT (fT vF 79 (upd nw5 ((nI h7)).toNatClampNeg 0)) 86 x15_F86) 87 x15_F87) 88 x15_F88) 89 x15_F89 = fT (fT (fT (fT (fT (fT vF 79 nw5) 86 x15_F86) 87 x15_F87) 88 x15_F88) 89 x15_F89) 79 (upd nw5 ((nI h7)).toNatClampNeg 0) := ((fT_sw _ _ _ (Nat.ne_of_beq_eq_false rfl)).trans (congrArg (fun g9 => fT g9 89 x15_F89) ((fT_sw _ _ _ (Nat.ne_of_beq_eq_false rfl)).trans (congrArg (fun g9 => fT g9 88 x15_F88) ((fT_sw _ _ _ (Nat.ne_of_beq_eq_false rfl)).trans (congrArg (fun g9 => fT g9 87 x15_F87) ((fT_sw _ _ _ (Nat.ne_of_beq_eq_false rfl)).trans (congrArg (fun g9 => fT g9 86 x15_F86) (fT_sm _ _ _ _))))))))).symm
                    have hP := wr_PF e9 (fz_w (WR_F 79 (by decide) _ rfl) hP)
                    have hD := wr_DF e9 (fz_wD (WR_F 79 (by decide) _ rfl) hD)
                    clear e9
                    refine lv_iinc (v := (nI (h7 + 1))) hx hb dX12_leave_219 hl (k := 3) rfl (nI_add h7 1) (by decide) rfl (fun ls (hl : lv_has ls _ ([(4, .int (nI (h7 + 1))), (0, .ref h0), (1, .int c1), (3, .int no)])) => ?_)
                    refine lv_goto (tgt := 198) hx hb dX12_leave_222 (by decide) ?_
                    have hl : lv_has _ _ ([(0, .ref h0), (1, .int c1), (3, .int no), (4, .int (nI (h7 + 1)))]) := lv_sub hl [1, 2, 3, 0] rfl
                    exact ih198_3 (h7 + 1) (upd nw5 ((nI h7)).toNatClampNeg 0) _ _ _ (by omega) (fun h9 => absurd h9 c_208) (fun h hh => by rw [upd_at (by omega)]; by_cases e9 : h = h7; (rw [if_pos e9]; exact ⟨0, by decide, nI_0.symm⟩); (rw [if_neg e9]; exact hN5 h hh)) (by omega) hP hD hS hl
            · have t_166 : ¬ ((h6 : Nat) : Int) ≥ ((hn : Nat) : Int) := toI_nge c_166 (nI_toInt (by omega)) (nI_toInt (by omega))
              refine lv_iload_n hx hb dX12_leave_169 rfl (lv_at hl 2 rfl) ?_
              refine W.cut (pc := 188) (fun H locs ls stk => ∃ (j16_s0 : Int32),  stk = [.int j16_s0] ∧ va_P (dC, dI) vwCl (WR a k h0 vi vj (fT (fT (fT (fT (fT vF 79 nw1) 86 x15_F86) 87 x15_F87) 88 x15_F88) 89 x15_F89) vG) H ∧ va_D A (WR a k h0 vi vj (fT (fT (fT (fT (fT vF 79 nw1) 86 x15_F86) 87 x15_F87) 88 x15_F88) 89 x15_F89) vG) ∧ va_S A s.heap H locs ∧ lv_has ls 6 [(0, .ref h0), (1, .int c1), (3, .int no), (4, .int (nI h6))]) (fun join1 => ?_) ?_
              · refine lv_if_ne (tgt := 183) hx hb dX12_leave_170 (by decide) (fun c_170 => ?_) (fun c_170 => ?_)
                · have t_170 : (no).toInt ≠ 0 := toI_ne c_170 rfl (by decide)
                  refine lv_iconst (v := 1) hx hb dX12_leave_183 (by decide) ?_
                  refine lv_goto (tgt := 188) hx hb dX12_leave_184 (by decide) ?_
                  have hl : lv_has _ _ ([(0, .ref h0), (1, .int c1), (3, .int no), (4, .int (nI h6))]) := lv_sub hl [0, 1, 2, 3] rfl
                  exact join1 _ _ _ _ ⟨1, rfl, hP, hD, hS, hl⟩
                · have t_170 : (no).toInt = 0 := toI_nne c_170 rfl (by decide)
                  refine lv_aload_n hx hb dX12_leave_173 rfl (lv_at hl 0 rfl) ?_
                  refine va_get (D := (dC, dI)) (ci := 12) (v := .ref (a 79)) (C := RX12) (T := TX12) (N := 163) (fs := fM (vS a vi vj)) hx hb hts iwsRX12_leave_in12 hown hK hP 0 rfl rfl 131 (by decide) (hts _ hm_r_X12_leave_1) (fun _ h9 => h9) rfl dX12_leave_174 ?_
                  refine lv_iload hx hb dX12_leave_177 (lv_at hl 3 rfl) ?_
                  refine va_iald (cA := k 79) (n := 10) (f := nw1) hx hb hK hP 80 79 (WR_get 79 (by decide)) (TR_get 79 (by decide)) (vp_in_nI (show h6 < 10 by omega) (by omega)) dX12_leave_179 ?_
                  refine lv_topi (fun y4 hy4 => ?_)
                  obtain rfl : (nw1 h6) = y4 := (hy4.trans (by rw [nI_clamp (by omega)])).symm
                  refine lv_if_ne (tgt := 187) hx hb dX12_leave_180 (by decide) (fun c_180 => ?_) (fun c_180 => ?_)
                  · have t_180 : ((nw1 h6)).toInt ≠ 0 := toI_ne c_180 rfl (by decide)
                    refine lv_iconst (v := 0) hx hb dX12_leave_187 (by decide) ?_
                    have hl : lv_has _ _ ([(0, .ref h0), (1, .int c1), (3, .int no), (4, .int (nI h6))]) := lv_sub hl [0, 1, 2, 3] rfl
                    exact join1 _ _ _ _ ⟨0, rfl, hP, hD, hS, hl⟩
                  · have t_180 : ((nw1 h6)).toInt = 0 := toI_nne c_180 rfl (by decide)
                    refine lv_iconst (v := 1) hx hb dX12_leave_183 (by decide) ?_
                    refine lv_goto (tgt := 188) hx hb dX12_leave_184 (by decide) ?_
                    have hl : lv_has _ _ ([(0, .ref h0), (1, .int c1), (3, .int no), (4, .int (nI h6))]) := lv_sub hl [0, 1, 2, 3] rfl
                    exact join1 _ _ _ _ ⟨1, rfl, hP, hD, hS, hl⟩
              · rintro H locs ls stk ⟨j16_s0, rfl, hP, hD, hS, hl⟩
                refine lv_istore_n hx hb dX12_leave_188 rfl hl (by decide) rfl (fun ls (hl : lv_has ls _ ([(3, .int j16_s0), (0, .ref h0), (1, .int c1), (4, .int (nI h6))])) => ?_)
                refine lv_iinc (v := (nI (h6 + 1))) hx hb dX12_leave_189 hl (k := 3) rfl (nI_add h6 1) (by decide) rfl (fun ls (hl : lv_has ls _ ([(4, .int (nI (h6 + 1))), (3, .int j16_s0), (0, .ref h0), (1, .int c1)])) => ?_)
                refine lv_goto (tgt := 160) hx hb dX12_leave_192 (by decide) ?_
                have hl : lv_has _ _ ([(0, .ref h0), (1, .int c1), (3, .int j16_s0), (4, .int (nI (h6 + 1)))]) := lv_sub hl [2, 3, 1, 0] rfl
                exact ih160_2 (h6 + 1) j16_s0 _ _ _ (by omega) (by omega) hP hD hS hl
        · have t_19 : ¬ ((r5 : Nat) : Int) ≥ ((ru : Nat) : Int) := toI_nge c_19 (nI_toInt (by omega)) (nI_toInt (by omega))
          refine lv_aload_n hx hb dX12_leave_22 rfl (lv_at hl 0 rfl) ?_
          refine va_get (D := (dC, dI)) (ci := 12) (v := .int (vi 138)) (C := RX12) (T := TX12) (N := 163) (fs := fM (vS a vi vj)) hx hb hts iwsRX12_leave_in12 hown hK hP 0 rfl rfl 138 (by decide) (hts (.fieldLink RX12 1022 "OptimaWorksModel" "barred" "I") (by decide +kernel)) (fun _ h9 => h9) rfl dX12_leave_23 ?_
          refine lv_iload_n hx hb dX12_leave_26 rfl (lv_at hl 3 rfl) ?_
          refine lv_ishr hx hb dX12_leave_27 ?_
          refine lv_iconst (v := 1) hx hb dX12_leave_28 (by decide) ?_
          refine lv_iand hx hb dX12_leave_29 ?_
          refine lv_iconst (v := 1) hx hb dX12_leave_30 (by decide) ?_
          refine lv_icmp_eq (tgt := 149) hx hb dX12_leave_31 (by decide) (fun c_31 => ?_) (fun c_31 => ?_)
          · have t_31 : ((((vi 138) >>> ((nI r5) &&& 31)) &&& 1)).toInt = 1 := toI_eq c_31 rfl (by decide)
            refine lv_iinc (v := (nI (r5 + 1))) hx hb dX12_leave_149 hl (k := 3) rfl (nI_add r5 1) (by decide) rfl (fun ls (hl : lv_has ls _ ([(3, .int (nI (r5 + 1))), (0, .ref h0), (1, .int c1), (2, .int ch)])) => ?_)
            refine lv_goto (tgt := 14) hx hb dX12_leave_152 (by decide) ?_
            have hl : lv_has _ _ ([(0, .ref h0), (1, .int c1), (2, .int ch), (3, .int (nI (r5 + 1)))]) := lv_sub hl [1, 2, 3, 0] rfl
            exact ih14_1 c1 nw1 (r5 + 1) x15_F86 x15_F87 x15_F88 x15_F89 _ _ _ (by omega) (hN1) (hM1) (by omega) hP hD hS hl
          · have t_31 : ¬ ((((vi 138) >>> ((nI r5) &&& 31)) &&& 1)).toInt = 1 := toI_neq c_31 rfl (by decide)
            refine lv_aload_n hx hb dX12_leave_34 rfl (lv_at hl 0 rfl) ?_
            refine lv_iload_n hx hb dX12_leave_35 rfl (lv_at hl 3 rfl) ?_
            have hFc := allFree hD hS hA
            refine va_calli (va_runV (As := [.int (nI r5)]) (rest := []) ⟨hx, hb, hml, hown, hts⟩ (r_X12_scope l dC dI a k h0 vi vj (fT (fT (fT (fT (fT vF 79 nw1) 86 x15_F86) 87 x15_F87) 88 x15_F88) 89 x15_F89) vG r5 (by first | with_reducible assumption | decide | omega | rfl | assumption) H.size) (cwV 1 hts gwsRX12_leave_0 rfl rfl rfl hd_yX12_scope_RX12 (by decide +kernel)) (fz_pre (va_recv hK hP (ci := 12) (q0 := 0) rfl rfl) hP hK hD) rfl rfl hl.1 rfl (lv_room (Nat.le_of_ble_eq_true rfl)) dX12_leave_36 (by decide +kernel)) hS (fun q _ h => hFc q h) hFc (fun r36 u t9_ H locs ht hvm hw9 hB9 hz1 hk1 hS => ?_)
            have hP : va_P (dC, dI) vwCl (WR a k h0 vi vj (fT (fT (fT (fT (fT vF 79 nw1) 86 x15_F86) 87 x15_F87) 88 x15_F88) 89 x15_F89) vG) H := fz_P ht hB9.1
            have hD := fz_sd hP (hB9.2.weaken (fun _ q _ h => hFc q.1 h)) rfl
            refine lv_iload_n hx hb dX12_leave_39 rfl (lv_at hl 2 rfl) ?_
            refine lv_iload_n hx hb dX12_leave_40 rfl (lv_at hl 1 rfl) ?_
            refine lv_ior hx hb dX12_leave_41 ?_
            refine lv_iand hx hb dX12_leave_42 ?_
            refine lv_if_ne (tgt := 49) hx hb dX12_leave_43 (by decide) (fun c_43 => ?_) (fun c_43 => ?_)
            · have t_43 : ((r36 &&& (ch ||| c1))).toInt ≠ 0 := toI_ne c_43 rfl (by decide)
              refine lv_iconst (v := 0) hx hb dX12_leave_49 (by decide) ?_
              refine lv_istore hx hb dX12_leave_50 hl (by decide) rfl (fun ls (hl : lv_has ls _ ([(4, .int 0), (0, .ref h0), (1, .int c1), (2, .int ch), (3, .int (nI r5))])) => ?_)
              have hl : lv_has _ _ ([(0, .ref h0), (1, .int c1), (2, .int ch), (3, .int (nI r5)), (4, .int (nI 0))]) := lv_sub hl [1, 2, 3, 4, 0] rfl
              refine (fun (loop : ∀ (n9 : Nat) (c2 : Int32) (nw2 : Nat → Int32) (h5 : Nat) (x18_F86 : Nat → Int32) (x18_F87 : Nat → Int32) (x18_F88 : Nat → Int32) (x18_F89 : Nat → Int32) (H : Heap) (locs : List Loc) (ls : Array Slot), (h5 ≤ hn) → (DoO nw2 hn) → ((c2 = 0 ∧ sumN hn (cD nw2) ≤ sumN hn (cD nw)) ∨ sumN hn (cD nw2) < sumN hn (cD nw)) →  (hn < h5 + n9) → va_P (dC, dI) vwCl (WR a k h0 vi vj (fT (fT (fT (fT (fT vF 79 nw2) 86 x18_F86) 87 x18_F87) 88 x18_F88) 89 x18_F89) vG) H → va_D A (WR a k h0 vi vj (fT (fT (fT (fT (fT vF 79 nw2) 86 x18_F86) 87 x18_F87) 88 x18_F88) 89 x18_F89) vG) → va_S A s.heap H locs → lv_has ls 6 [(0, .ref h0), (1, .int c2), (2, .int ch), (3, .int (nI r5)), (4, .int (nI h5))] → W p l e _ s m _ below meth c H locs 0 0 _ (F0 m 52 ls [])) => loop (hn + 1) c1 nw1 0 x15_F86 x15_F87 x15_F88 x15_F89 _ _ _ (by omega) (hN1) (hM1) (by omega) hP hD hS hl) ?_
              intro n9
              induction n9 with
              | zero => intro c2 nw2 h5 x18_F86 x18_F87 x18_F88 x18_F89 H locs ls hh5 hN2 hM2 hf9; exact False.elim (by omega)
              | succ n9 ih52_4 =>
                intro c2 nw2 h5 x18_F86 x18_F87 x18_F88 x18_F89 H locs ls hh5 hN2 hM2 hf52_4 hP hD hS hl
                refine lv_iload hx hb dX12_leave_52 (lv_at hl 4 rfl) ?_
                refine lv_aload_n hx hb dX12_leave_54 rfl (lv_at hl 0 rfl) ?_
                refine va_get (D := (dC, dI)) (ci := 12) (v := .int (vi 128)) (C := RX12) (T := TX12) (N := 163) (fs := fM (vS a vi vj)) hx hb hts iwsRX12_leave_in12 hown hK hP 0 rfl rfl 128 (by decide) (hts _ hm_r_X12_leave_0) (fun _ h9 => h9) rfl dX12_leave_55 ?_
                refine lv_topi (fun y5 hy5 => ?_)
                obtain rfl : (nI hn) = y5 := (hy5.trans (hhn)).symm
                refine lv_icmp_ge (tgt := 149) hx hb dX12_leave_58 (by decide) (fun c_58 => ?_) (fun c_58 => ?_)
                · have t_58 : ((h5 : Nat) : Int) ≥ ((hn : Nat) : Int) := toI_ge c_58 (nI_toInt (by omega)) (nI_toInt (by omega))
                  refine lv_iinc (v := (nI (r5 + 1))) hx hb dX12_leave_149 hl (k := 3) rfl (nI_add r5 1) (by decide) rfl (fun ls (hl : lv_has ls _ ([(3, .int (nI (r5 + 1))), (0, .ref h0), (1, .int c2), (2, .int ch), (4, .int (nI h5))])) => ?_)
                  refine lv_goto (tgt := 14) hx hb dX12_leave_152 (by decide) ?_
                  have hl : lv_has _ _ ([(0, .ref h0), (1, .int c2), (2, .int ch), (3, .int (nI (r5 + 1)))]) := lv_sub hl [1, 2, 3, 0] rfl
                  exact ih14_1 c2 nw2 (r5 + 1) x18_F86 x18_F87 x18_F88 x18_F89 _ _ _ (by omega) (hN2) (hM2) (by omega) hP hD hS hl
                · have t_58 : ¬ ((h5 : Nat) : Int) ≥ ((hn : Nat) : Int) := toI_nge c_58 (nI_toInt (by omega)) (nI_toInt (by omega))
                  refine lv_iconst (v := 0) hx hb dX12_leave_61 (by decide) ?_
                  refine lv_istore hx hb dX12_leave_62 hl (by decide) rfl (fun ls (hl : lv_has ls _ ([(5, .int 0), (0, .ref h0), (1, .int c2), (2, .int ch), (3, .int (nI r5)), (4, .int (nI h5))])) => ?_)
                  have hl : lv_has _ _ ([(0, .ref h0), (1, .int c2), (2, .int ch), (3, .int (nI r5)), (4, .int (nI h5)), (5, .int (nI 0))]) := lv_sub hl [1, 2, 3, 4, 5, 0] rfl
                  refine (fun (loop : ∀ (n9 : Nat) (c3 : Int32) (nw3 : Nat → Int32) (v5 : Nat) (x19_F86 : Nat → Int32) (x19_F87 : Nat → Int32) (x19_F88 : Nat → Int32) (x19_F89 : Nat → Int32) (H : Heap) (locs : List Loc) (ls : Array Slot), (v5 ≤ 16) → (DoO nw3 hn) → ((c3 = 0 ∧ sumN hn (cD nw3) ≤ sumN hn (cD nw)) ∨ sumN hn (cD nw3) < sumN hn (cD nw)) →  (16 < v5 + n9) → va_P (dC, dI) vwCl (WR a k h0 vi vj (fT (fT (fT (fT (fT vF 79 nw3) 86 x19_F86) 87 x19_F87) 88 x19_F88) 89 x19_F89) vG) H → va_D A (WR a k h0 vi vj (fT (fT (fT (fT (fT vF 79 nw3) 86 x19_F86) 87 x19_F87) 88 x19_F88) 89 x19_F89) vG) → va_S A s.heap H locs → lv_has ls 6 [(0, .ref h0), (1, .int c3), (2, .int ch), (3, .int (nI r5)), (4, .int (nI h5)), (5, .int (nI v5))] → W p l e _ s m _ below meth c H locs 0 0 _ (F0 m 64 ls [])) => loop (17) c2 nw2 0 x18_F86 x18_F87 x18_F88 x18_F89 _ _ _ (by omega) (hN2) (hM2) (by omega) hP hD hS hl) ?_
                  intro n9
                  induction n9 with
                  | zero => intro c3 nw3 v5 x19_F86 x19_F87 x19_F88 x19_F89 H locs ls hv5 hN3 hM3 hf9; exact False.elim (by omega)
                  | succ n9 ih64_5 =>
                    intro c3 nw3 v5 x19_F86 x19_F87 x19_F88 x19_F89 H locs ls hv5 hN3 hM3 hf64_5 hP hD hS hl
                    refine lv_iload hx hb dX12_leave_64 (lv_at hl 5 rfl) ?_
                    refine lv_bipush (v := 16) hx hb dX12_leave_66 (by decide) ?_
                    refine lv_icmp_ge (tgt := 143) hx hb dX12_leave_68 (by decide) (fun c_68 => ?_) (fun c_68 => ?_)
                    · have t_68 : ((v5 : Nat) : Int) ≥ 16 := toI_ge c_68 (nI_toInt (by omega)) (by decide)
                      refine lv_iinc (v := (nI (h5 + 1))) hx hb dX12_leave_143 hl (k := 4) rfl (nI_add h5 1) (by decide) rfl (fun ls (hl : lv_has ls _ ([(4, .int (nI (h5 + 1))), (0, .ref h0), (1, .int c3), (2, .int ch), (3, .int (nI r5)), (5, .int (nI v5))])) => ?_)
                      refine lv_goto (tgt := 52) hx hb dX12_leave_146 (by decide) ?_
                      have hl : lv_has _ _ ([(0, .ref h0), (1, .int c3), (2, .int ch), (3, .int (nI r5)), (4, .int (nI (h5 + 1)))]) := lv_sub hl [1, 2, 3, 4, 0] rfl
                      exact ih52_4 c3 nw3 (h5 + 1) x19_F86 x19_F87 x19_F88 x19_F89 _ _ _ (by omega) (hN3) (hM3) (by omega) hP hD hS hl
                    · have t_68 : ¬ ((v5 : Nat) : Int) ≥ 16 := toI_nge c_68 (nI_toInt (by omega)) (by decide)
                      refine lv_aload_n hx hb dX12_leave_71 rfl (lv_at hl 0 rfl) ?_
                      refine lv_iload_n hx hb dX12_leave_72 rfl (lv_at hl 3 rfl) ?_
                      have hFc := allFree hD hS hA
                      refine va_calli (va_runV (As := [.int (nI r5)]) (rest := []) ⟨hx, hb, hml, hown, hts⟩ (r_X12_scope l dC dI a k h0 vi vj (fT (fT (fT (fT (fT vF 79 nw3) 86 x19_F86) 87 x19_F87) 88 x19_F88) 89 x19_F89) vG r5 (by first | with_reducible assumption | decide | omega | rfl | assumption) H.size) (cwV 1 hts gwsRX12_leave_0 rfl rfl rfl hd_yX12_scope_RX12 (by decide +kernel)) (fz_pre (va_recv hK hP (ci := 12) (q0 := 0) rfl rfl) hP hK hD) rfl rfl hl.1 rfl (lv_room (Nat.le_of_ble_eq_true rfl)) dX12_leave_73 (by decide +kernel)) hS (fun q _ h => hFc q h) hFc (fun r73 u t9_ H locs ht hvm hw9 hB9 hz1 hk1 hS => ?_)
                      have hP : va_P (dC, dI) vwCl (WR a k h0 vi vj (fT (fT (fT (fT (fT vF 79 nw3) 86 x19_F86) 87 x19_F87) 88 x19_F88) 89 x19_F89) vG) H := fz_P ht hB9.1
                      have hD := fz_sd hP (hB9.2.weaken (fun _ q _ h => hFc q.1 h)) rfl
                      refine lv_iload hx hb dX12_leave_76 (lv_at hl 4 rfl) ?_
                      refine lv_ishr hx hb dX12_leave_78 ?_
                      refine lv_iconst (v := 1) hx hb dX12_leave_79 (by decide) ?_
                      refine lv_iand hx hb dX12_leave_80 ?_
                      refine lv_if_eq (tgt := 137) hx hb dX12_leave_81 (by decide) (fun c_81 => ?_) (fun c_81 => ?_)
                      · have t_81 : (((r73 >>> ((nI h5) &&& 31)) &&& 1)).toInt = 0 := toI_eq c_81 rfl (by decide)
                        refine lv_iinc (v := (nI (v5 + 1))) hx hb dX12_leave_137 hl (k := 5) rfl (nI_add v5 1) (by decide) rfl (fun ls (hl : lv_has ls _ ([(5, .int (nI (v5 + 1))), (0, .ref h0), (1, .int c3), (2, .int ch), (3, .int (nI r5)), (4, .int (nI h5))])) => ?_)
                        refine lv_goto (tgt := 64) hx hb dX12_leave_140 (by decide) ?_
                        have hl : lv_has _ _ ([(0, .ref h0), (1, .int c3), (2, .int ch), (3, .int (nI r5)), (4, .int (nI h5)), (5, .int (nI (v5 + 1)))]) := lv_sub hl [1, 2, 3, 4, 5, 0] rfl
                        exact ih64_5 c3 nw3 (v5 + 1) x19_F86 x19_F87 x19_F88 x19_F89 _ _ _ (by omega) (hN3) (hM3) (by omega) hP hD hS hl
                      · have t_81 : ¬ (((r73 >>> ((nI h5) &&& 31)) &&& 1)).toInt = 0 := toI_neq c_81 rfl (by decide)
                        refine lv_aload_n hx hb dX12_leave_84 rfl (lv_at hl 0 rfl) ?_
                        refine va_get (D := (dC, dI)) (ci := 12) (v := .ref (a 79)) (C := RX12) (T := TX12) (N := 163) (fs := fM (vS a vi vj)) hx hb hts iwsRX12_leave_in12 hown hK hP 0 rfl rfl 131 (by decide) (hts _ hm_r_X12_leave_1) (fun _ h9 => h9) rfl dX12_leave_85 ?_
                        refine lv_iload hx hb dX12_leave_88 (lv_at hl 4 rfl) ?_
                        refine va_iald (cA := k 79) (n := 10) (f := nw3) hx hb hK hP 80 79 (WR_get 79 (by decide)) (TR_get 79 (by decide)) (vp_in_nI (show h5 < 10 by omega) (by omega)) dX12_leave_90 ?_
                        refine lv_topi (fun y6 hy6 => ?_)
                        obtain rfl : (nw3 h5) = y6 := (hy6.trans (by rw [nI_clamp (by omega)])).symm
                        refine lv_iload hx hb dX12_leave_91 (lv_at hl 5 rfl) ?_
                        refine lv_ishr hx hb dX12_leave_93 ?_
                        refine lv_iconst (v := 1) hx hb dX12_leave_94 (by decide) ?_
                        refine lv_iand hx hb dX12_leave_95 ?_
                        refine lv_if_eq (tgt := 137) hx hb dX12_leave_96 (by decide) (fun c_96 => ?_) (fun c_96 => ?_)
                        · have t_96 : ((((nw3 h5) >>> ((nI v5) &&& 31)) &&& 1)).toInt = 0 := toI_eq c_96 rfl (by decide)
                          refine lv_iinc (v := (nI (v5 + 1))) hx hb dX12_leave_137 hl (k := 5) rfl (nI_add v5 1) (by decide) rfl (fun ls (hl : lv_has ls _ ([(5, .int (nI (v5 + 1))), (0, .ref h0), (1, .int c3), (2, .int ch), (3, .int (nI r5)), (4, .int (nI h5))])) => ?_)
                          refine lv_goto (tgt := 64) hx hb dX12_leave_140 (by decide) ?_
                          have hl : lv_has _ _ ([(0, .ref h0), (1, .int c3), (2, .int ch), (3, .int (nI r5)), (4, .int (nI h5)), (5, .int (nI (v5 + 1)))]) := lv_sub hl [1, 2, 3, 4, 5, 0] rfl
                          exact ih64_5 c3 nw3 (v5 + 1) x19_F86 x19_F87 x19_F88 x19_F89 _ _ _ (by omega) (hN3) (hM3) (by omega) hP hD hS hl
                        · have t_96 : ¬ ((((nw3 h5) >>> ((nI v5) &&& 31)) &&& 1)).toInt = 0 := toI_neq c_96 rfl (by decide)
                          refine lv_aload_n hx hb dX12_leave_99 rfl (lv_at hl 0 rfl) ?_
                          refine lv_iload_n hx hb dX12_leave_100 rfl (lv_at hl 3 rfl) ?_
                          refine lv_iload hx hb dX12_leave_101 (lv_at hl 4 rfl) ?_
                          refine lv_iload hx hb dX12_leave_103 (lv_at hl 5 rfl) ?_
                          have hFc := allFree hD hS hA
                          refine va_calli (va_runV (As := [.int (nI r5), .int (nI h5), .int (nI v5)]) (rest := []) ⟨hx, hb, hml, hown, hts⟩ (r_X12_supports l dC dI a k h0 vi vj (fT (fT (fT (fT (fT vF 79 nw3) 86 x19_F86) 87 x19_F87) 88 x19_F88) 89 x19_F89) vG r5 hn (nI h5) (nI v5) (by first | with_reducible assumption | decide | omega | rfl | assumption) hhn (by first | with_reducible assumption | decide | omega | rfl | assumption) (hRu r5 (by omega)) H.size) (cwV 3 hts gwsRX12_leave_1 rfl rfl rfl hd_yX12_supports_RX12 (by decide +kernel)) (fz_pre (va_recv hK hP (ci := 12) (q0 := 0) rfl rfl) hP hK hD) rfl rfl hl.1 rfl (lv_room (Nat.le_of_ble_eq_true rfl)) dX12_leave_105 (by decide +kernel)) hS (fun q _ h => hFc q h) hFc (fun r105 u t9_ H locs ht hvm hw9 hB9 hz1 hk1 hS => ?_)
                          revert u hw9 hB9
                          refine fz_p4 ?_
                          intro g86105 g87105 g88105 g89105 hw9 hB9
                          try dsimp only at hw9 hB9
                          have e9F : fT (fT (fT (fT (fT vF 79 nw3) 86 g86105) 87 g87105) 88 g88105) 89 g89105 = fT (fT (fT (fT (fT (fT (fT (fT (fT vF 79 nw3) 86 x19_F86) 87 x19_F87) 88 x19_F88) 89 x19_F89) 86 g86105) 87 g87105) 88 g88105) 89 g89105 := Eq.symm (Eq.trans (congrArg (fun g9 => fT g9 89 g89105) (Eq.trans (congrArg (fun g9 => fT g9 88 g88105) (Eq.trans (congrArg (fun g9 => fT g9 87 g87105) (up_3 rfl)) (up_2 rfl))) (up_1 rfl))) (up_0 rfl))
                          have hP := wr_PF e9F (fz_P ht hB9.1)
                          have hD := wr_DF e9F (hB9.2.weaken (fun _ q _ h => hFc q.1 h))
                          clear e9F
                          rcases hw9 with rfl | rfl
                          · refine lv_if_eq (tgt := 114) hx hb dX12_leave_108 (by decide) (fun c9 => absurd c9 (by decide)) (fun _ => ?_)
                            refine lv_goto (tgt := 137) hx hb dX12_leave_111 (by decide) ?_
                            refine lv_iinc (v := (nI (v5 + 1))) hx hb dX12_leave_137 hl (k := 5) rfl (nI_add v5 1) (by decide) rfl (fun ls (hl : lv_has ls _ ([(5, .int (nI (v5 + 1))), (0, .ref h0), (1, .int c3), (2, .int ch), (3, .int (nI r5)), (4, .int (nI h5))])) => ?_)
                            refine lv_goto (tgt := 64) hx hb dX12_leave_140 (by decide) ?_
                            have hl : lv_has _ _ ([(0, .ref h0), (1, .int c3), (2, .int ch), (3, .int (nI r5)), (4, .int (nI h5)), (5, .int (nI (v5 + 1)))]) := lv_sub hl [1, 2, 3, 4, 5, 0] rfl
                            exact ih64_5 c3 nw3 (v5 + 1) g86105 g87105 g88105 g89105 _ _ _ (by omega) (hN3) (hM3) (by omega) hP hD hS hl
                          · refine lv_if_eq (tgt := 114) hx hb dX12_leave_108 (by decide) (fun _ => ?_) (fun c9 => absurd (by decide) c9)
                            obtain ⟨b0, hb0, eb0⟩ := hN3 h5 (by omega)
                            obtain ⟨b2, hb2, eb2⟩ := clrB (v := v5) hb0 (by omega) (by rw [← eb0]; exact c_96)
                            have hS9 := sum_dec (f := cD nw3) (g := cD (upd nw3 (nI h5).toNatClampNeg (nI b2))) (h := h5) (fun q hq => by unfold cD; rw [upd_at (by omega), if_neg hq]) (by unfold cD; rw [upd_at (by omega), if_pos rfl, eb0, nI_clamp (by omega), nI_clamp (by omega)]; exact hb2) hn (by omega)
                            refine lv_aload_n hx hb dX12_leave_114 rfl (lv_at hl 0 rfl) ?_
                            refine va_get (D := (dC, dI)) (ci := 12) (v := .ref (a 79)) (C := RX12) (T := TX12) (N := 163) (fs := fM (vS a vi vj)) hx hb hts iwsRX12_leave_in12 hown hK hP 0 rfl rfl 131 (by decide) (hts _ hm_r_X12_leave_1) (fun _ h9 => h9) rfl dX12_leave_115 ?_
                            refine lv_iload hx hb dX12_leave_118 (lv_at hl 4 rfl) ?_
                            refine lv_dup2_11 hx hb dX12_leave_120 rfl rfl ?_
                            refine va_iald (cA := k 79) (n := 10) (f := nw3) hx hb hK hP 80 79 (WR_get 79 (by decide)) (TR_get 79 (by decide)) (vp_in_nI (show h5 < 10 by omega) (by omega)) dX12_leave_121 ?_
                            refine lv_topi (fun y7 hy7 => ?_)
                            obtain rfl : (nw3 h5) = y7 := (hy7.trans (by rw [nI_clamp (by omega)])).symm
                            refine lv_iconst (v := 1) hx hb dX12_leave_122 (by decide) ?_
                            refine lv_iload hx hb dX12_leave_123 (lv_at hl 5 rfl) ?_
                            refine lv_ishl hx hb dX12_leave_125 ?_
                            refine lv_iconst (v := (-1)) hx hb dX12_leave_126 (by decide) ?_
                            refine lv_ixor hx hb dX12_leave_127 ?_
                            refine lv_iand hx hb dX12_leave_128 ?_
                            refine lv_topi (fun y8 hy8 => ?_)
                            obtain rfl : (nI b2) = y8 := (hy8.trans (by rw [eb0]; exact eb2)).symm
                            refine va_iast (cA := k 79) (n := 10) (f := nw3) hx hb hK hP hD hS 80 79 (WR_get 79 (by decide)) (TR_get 79 (by decide)) (vp_in_nI (show h5 < 10 by omega) (by omega)) dX12_leave_129 (fun H locs hP hD hS => ?_)
                            have e9 : fT (fT (fT (fT (fT vF 79 (upd nw3 ((nI h5)).toNatClampNeg (nI b2))) 86 g86105) 87 g87105) 88 g88105) 89 g89105 = fT (fT (fT (fT (fT (fT vF 79 nw3) 86 g86105) 87 g87105) 88 g88105) 89 g89105) 79 (upd nw3 ((nI h5)).toNatClampNeg (nI b2)) := ((fT_sw _ _ _ (Nat.ne_of_beq_eq_false rfl)).trans (congrArg (fun g9 => fT g9 89 g89105) ((fT_sw _ _ _ (Nat.ne_of_beq_eq_false rfl)).trans (congrArg (fun g9 => fT g9 88 g88105) ((fT_sw _ _ _ (Nat.ne_of_beq_eq_false rfl)).trans (congrArg (fun g9 => fT g9 87 g87105) ((fT_sw _ _ _ (Nat.ne_of_beq_eq_false rfl)).trans (congrArg (fun g9 => fT g9 86 g86105) (fT_sm _ _ _ _))))))))).symm
                            have hP := wr_PF e9 (fz_w (WR_F 79 (by decide) _ rfl) hP)
                            have hD := wr_DF e9 (fz_wD (WR_F 79 (by decide) _ rfl) hD)
                            clear e9
                            refine lv_iload_n hx hb dX12_leave_130 rfl (lv_at hl 1 rfl) ?_
                            refine lv_iconst (v := 1) hx hb dX12_leave_131 (by decide) ?_
                            refine lv_iload hx hb dX12_leave_132 (lv_at hl 4 rfl) ?_
                            refine lv_ishl hx hb dX12_leave_134 ?_
                            refine lv_ior hx hb dX12_leave_135 ?_
                            refine lv_istore_n hx hb dX12_leave_136 rfl hl (by decide) rfl (fun ls (hl : lv_has ls _ ([(1, .int (c3 ||| (1 <<< ((nI h5) &&& 31)))), (0, .ref h0), (2, .int ch), (3, .int (nI r5)), (4, .int (nI h5)), (5, .int (nI v5))])) => ?_)
                            refine lv_iinc (v := (nI (v5 + 1))) hx hb dX12_leave_137 hl (k := 5) rfl (nI_add v5 1) (by decide) rfl (fun ls (hl : lv_has ls _ ([(5, .int (nI (v5 + 1))), (1, .int (c3 ||| (1 <<< ((nI h5) &&& 31)))), (0, .ref h0), (2, .int ch), (3, .int (nI r5)), (4, .int (nI h5))])) => ?_)
                            refine lv_goto (tgt := 64) hx hb dX12_leave_140 (by decide) ?_
                            have hl : lv_has _ _ ([(0, .ref h0), (1, .int (c3 ||| (1 <<< ((nI h5) &&& 31)))), (2, .int ch), (3, .int (nI r5)), (4, .int (nI h5)), (5, .int (nI (v5 + 1)))]) := lv_sub hl [2, 1, 3, 4, 5, 0] rfl
                            exact ih64_5 (c3 ||| (1 <<< ((nI h5) &&& 31))) (upd nw3 ((nI h5)).toNatClampNeg (nI b2)) (v5 + 1) g86105 g87105 g88105 g89105 _ _ _ (by omega) (fun h hh => by rw [upd_at (by omega)]; by_cases e9 : h = h5; (rw [if_pos e9]; exact ⟨b2, by omega, rfl⟩); (rw [if_neg e9]; exact hN3 h hh)) (by (have h8 := hS9); rcases hM3 with ⟨h1, h2⟩ | h1; (exact Or.inr (by omega)); (exact Or.inr (by omega))) (by omega) hP hD hS hl
            · have t_43 : ((r36 &&& (ch ||| c1))).toInt = 0 := toI_nne c_43 rfl (by decide)
              refine lv_goto (tgt := 149) hx hb dX12_leave_46 (by decide) ?_
              refine lv_iinc (v := (nI (r5 + 1))) hx hb dX12_leave_149 hl (k := 3) rfl (nI_add r5 1) (by decide) rfl (fun ls (hl : lv_has ls _ ([(3, .int (nI (r5 + 1))), (0, .ref h0), (1, .int c1), (2, .int ch)])) => ?_)
              refine lv_goto (tgt := 14) hx hb dX12_leave_152 (by decide) ?_
              have hl : lv_has _ _ ([(0, .ref h0), (1, .int c1), (2, .int ch), (3, .int (nI (r5 + 1)))]) := lv_sub hl [1, 2, 3, 0] rfl
              exact ih14_1 c1 nw1 (r5 + 1) x15_F86 x15_F87 x15_F88 x15_F89 _ _ _ (by omega) (hN1) (hM1) (by omega) hP hD hS hl
theorem dX12_leaveAll_0 : decode cX12_leaveAll 0 = .ok (.iconst 0, 1) := dk_3 (by decide +kernel)
theorem dX12_leaveAll_1 : decode cX12_leaveAll 1 = .ok (.istore_n 1, 1) := dk_60 (by decide +kernel)
theorem dX12_leaveAll_2 : decode cX12_leaveAll 2 = .ok (.iload_n 1, 1) := dk_27 (by decide +kernel)
theorem dX12_leaveAll_3 : decode cX12_leaveAll 3 = .ok (.aload_n 0, 1) := dk_42 (by decide +kernel)
theorem dX12_leaveAll_4 : decode cX12_leaveAll 4 = .ok (.getfield 978, 3) := dk_180 (by decide +kernel)
theorem dX12_leaveAll_7 : decode cX12_leaveAll 7 = .ok (.if_icmp .ge 21, 3) := dk_162 (by decide +kernel)
theorem dX12_leaveAll_10 : decode cX12_leaveAll 10 = .ok (.aload_n 0, 1) := dk_42 (by decide +kernel)
theorem dX12_leaveAll_11 : decode cX12_leaveAll 11 = .ok (.getfield 260, 3) := dk_180 (by decide +kernel)
theorem dX12_leaveAll_14 : decode cX12_leaveAll 14 = .ok (.iload_n 1, 1) := dk_27 (by decide +kernel)
theorem dX12_leaveAll_15 : decode cX12_leaveAll 15 = .ok (.aload_n 0, 1) := dk_42 (by decide +kernel)
theorem dX12_leaveAll_16 : decode cX12_leaveAll 16 = .ok (.getfield 257, 3) := dk_180 (by decide +kernel)
theorem dX12_leaveAll_19 : decode cX12_leaveAll 19 = .ok (.iload_n 1, 1) := dk_27 (by decide +kernel)
theorem dX12_leaveAll_20 : decode cX12_leaveAll 20 = .ok (.iaload, 1) := dk_46 (by decide +kernel)
theorem dX12_leaveAll_21 : decode cX12_leaveAll 21 = .ok (.iastore, 1) := dk_79 (by decide +kernel)
theorem dX12_leaveAll_22 : decode cX12_leaveAll 22 = .ok (.iinc 1 1, 3) := dk_132 (by decide +kernel)
theorem dX12_leaveAll_25 : decode cX12_leaveAll 25 = .ok (.goto (-23), 3) := dk_167 (by decide +kernel)
theorem dX12_leaveAll_28 : decode cX12_leaveAll 28 = .ok (.aload_n 0, 1) := dk_42 (by decide +kernel)
theorem dX12_leaveAll_29 : decode cX12_leaveAll 29 = .ok (.invokevirtual 1028, 3) := dk_182 (by decide +kernel)
theorem dX12_leaveAll_32 : decode cX12_leaveAll 32 = .ok (.return_, 1) := dk_177 (by decide +kernel)
def wsRX12_leaveAll : List Cond := .code yX12_leaveAll cX12_leaveAll 2 none :: ([.fieldLink RX12 978 "OptimaWorksModel" "holders" "I", .fieldLink RX12 260 "OptimaWorksModel" "now" "[I", .fieldLink RX12 257 "OptimaWorksModel" "domain" "[I"] ++ wsX120 ++ (wsV RX12 1028 RX12 yX12_leave wsRX12_leave))
theorem iwsRX12_leaveAll_in12 : ∀ w ∈ wsX120, w ∈ wsRX12_leaveAll := fun _ h => List.mem_cons_of_mem _ (List.mem_append_left _ (List.mem_append_right _ h))
theorem gwsRX12_leaveAll_0 : GoodIn wsRX12_leaveAll (wsV RX12 1028 RX12 yX12_leave wsRX12_leave) := goodIn_sub (fun _ h => List.mem_cons_of_mem _ (List.mem_append_right _ h)) (gdV (by decide +kernel) gdwsRX12_leave)
theorem gdwsRX12_leaveAll : wsRX12_leaveAll.all goodWord = true := gdC rfl (gdA (gdA (by decide +kernel : ([.fieldLink RX12 978 "OptimaWorksModel" "holders" "I", .fieldLink RX12 260 "OptimaWorksModel" "now" "[I", .fieldLink RX12 257 "OptimaWorksModel" "domain" "[I"] : List Cond).all goodWord = true) gdwsX120) (gdV (by decide +kernel) gdwsRX12_leave))
set_option maxHeartbeats 4000000 in
set_option maxRecDepth 100000 in
/-- leaveAll() -/
theorem r_X12_leaveAll (l : Launch) (dC : Nat → ClassId) (dI : Nat → Nat → Nat) (a : Nat → Nat) (k : Nat → ClassId) (h0 : Nat) (vi : Nat → Int32) (vj : Nat → Int64) (vF : Nat → Nat → Int32) (vG : Nat → Nat → Int64) (hn : Nat) (ru : Nat) (hhn : vi 128 = nI hn) (hhn10 : hn ≤ 10) (hru : vi 129 = nI ru) (hru12 : ru ≤ 12) (hRu : RuO (vF 80) (vF 81) (vF 82) (vF 83) hn ru) (hDo : DoO (vF 78) hn) (sz : Nat) : Met l yX12_leaveAll wsRX12_leaveAll ({ frames := 6, cells := 0, slots := 0, locals := 145 }) (va_Pc [.ref h0] (fun U => U.heap.size = sz ∧ va_P (dC, dI) vwCl (WR a k h0 vi vj vF vG) U.heap ∧ va_K (dC, dI) vwCl (tX12 k) U ∧ va_D (fun _ => True) (WR a k h0 vi vj vF vG))) (va_Qv (fun (u : (Nat → Int32) × (Nat → Int32) × (Nat → Int32) × (Nat → Int32) × (Nat → Int32)) => (DoO (u.1) hn)) (fun (u : (Nat → Int32) × (Nat → Int32) × (Nat → Int32) × (Nat → Int32) × (Nat → Int32)) t => va_P (dC, dI) vwCl (WR a k h0 vi vj (fT (fT (fT (fT (fT vF 79 (u.1)) 86 (u.2.1)) 87 (u.2.2.1)) 88 (u.2.2.2.1)) 89 (u.2.2.2.2)) vG) t.heap ∧ va_D (va_A (WR a k h0 vi vj vF vG) sz) (WR a k h0 vi vj (fT (fT (fT (fT (fT vF 79 (u.1)) 86 (u.2.1)) 87 (u.2.2.1)) 88 (u.2.2.2.1)) 89 (u.2.2.2.2)) vG)) (va_A (WR a k h0 vi vj vF vG) sz)) 0 0 (va_A (WR a k h0 vi vj vF vG) sz) := by
  refine Met.ofW (cc := cX12_leaveAll) (maxL := 2) (ret := none) (by decide) rfl ?_
  intro p e s m args below meth c s₁ B hml hv
  obtain ⟨rfl, hsz, hP, hK, hD0⟩ := hv
  have hx := B.exec
  have hb := B.bytes
  have hr := B.returns
  have hts := atoms_spec (ws := wsRX12_leaveAll) B.pre
  have hown : s.vm.findClass RX12 = some m.cls := findClass_of_methodNamed B.named
  have hlocks := B.notSynchronized
  subst hsz
  have hD := hD0.self (sz := s.heap.size)
  generalize hAe : va_A (WR a k h0 vi vj vF vG) s.heap.size = A at hD ⊢
  have hA : ∀ q : Nat, s.heap.size ≤ q → A q := fun q h => by rw [← hAe]; exact Or.inr h
  have hS : va_S A s.heap s.heap [] := va_S.rf
  have hl := lv_entry ([.ref h0]) (n := 2) (Nat.le_of_ble_eq_true rfl)
  rw [lg_entry_eq]
  generalize (lg_sl ([.ref h0]) ++ List.replicate (2 - (lg_sl ([.ref h0])).length) Slot.unset).toArray = ls at hl ⊢
  have hl : lv_has ls 2 [(0, .ref h0)] := hl
  refine lv_iconst (v := 0) hx hb dX12_leaveAll_0 (by decide) ?_
  refine lv_istore_n hx hb dX12_leaveAll_1 rfl hl (by decide) rfl (fun ls (hl : lv_has ls _ ([(1, .int 0), (0, .ref h0)])) => ?_)
  have e9 : fT vF 79 (vF 79) = vF := by funext q9; by_cases h9_79 : q9 = 79; (subst h9_79; exact (fT_eq _ _ _).trans (Eq.trans (by first | with_reducible rfl | with_reducible assumption | (symm; with_reducible assumption) | rfl | assumption | (symm; assumption) | (subst_vars; rfl)) (Eq.refl _).symm)); exact (fT_ne _ _ h9_79).trans (Eq.refl _).symm
  have hP := wr_PF e9 hP
  have hD := wr_DF e9 hD
  clear e9
  have hl : lv_has _ _ ([(0, .ref h0), (1, .int (nI 0))]) := lv_sub hl [1, 0] rfl
  refine (fun (loop : ∀ (n9 : Nat) (h5 : Nat) (nw : Nat → Int32) (H : Heap) (locs : List Loc) (ls : Array Slot), (h5 ≤ hn) → (∀ h, h < h5 → ∃ b, b < 65536 ∧ nw h = nI b) →  (hn < h5 + n9) → va_P (dC, dI) vwCl (WR a k h0 vi vj (fT vF 79 nw) vG) H → va_D A (WR a k h0 vi vj (fT vF 79 nw) vG) → va_S A s.heap H locs → lv_has ls 2 [(0, .ref h0), (1, .int (nI h5))] → W p l e _ s m _ below meth c H locs 0 0 _ (F0 m 2 ls [])) => loop (hn + 1) 0 (vF 79) _ _ _ (by omega) (fun h hh => absurd hh (by omega)) (by omega) hP hD hS hl) ?_
  intro n9
  induction n9 with
  | zero => intro h5 nw H locs ls hh5 hz hf9; exact False.elim (by omega)
  | succ n9 ih2 =>
    intro h5 nw H locs ls hh5 hz hf2 hP hD hS hl
    refine lv_iload_n hx hb dX12_leaveAll_2 rfl (lv_at hl 1 rfl) ?_
    refine lv_aload_n hx hb dX12_leaveAll_3 rfl (lv_at hl 0 rfl) ?_
    refine va_get (D := (dC, dI)) (ci := 12) (v := .int (vi 128)) (C := RX12) (T := TX12) (N := 163) (fs := fM (vS a vi vj)) hx hb hts iwsRX12_leaveAll_in12 hown hK hP 0 rfl rfl 128 (by decide) (hts (.fieldLink RX12 978 "OptimaWorksModel" "holders" "I") (by decide +kernel)) (fun _ h9 => h9) rfl dX12_leaveAll_4 ?_
    refine lv_topi (fun y1 hy1 => ?_)
    obtain rfl : (nI hn) = y1 := (hy1.trans (hhn)).symm
    refine lv_icmp_ge (tgt := 28) hx hb dX12_leaveAll_7 (by decide) (fun c_7 => ?_) (fun c_7 => ?_)
    · have t_7 : ((h5 : Nat) : Int) ≥ ((hn : Nat) : Int) := toI_ge c_7 (nI_toInt (by omega)) (nI_toInt (by omega))
      have hN4 : DoO nw hn := fun h hh => hz h (by omega)
      refine lv_aload_n hx hb dX12_leaveAll_28 rfl (lv_at hl 0 rfl) ?_
      have hFc := allFree hD hS hA
      refine va_callv (va_runV (As := []) (rest := []) ⟨hx, hb, hml, hown, hts⟩ (r_X12_leave l dC dI a k h0 vi vj (fT vF 79 nw) vG hn ru hhn (by first | with_reducible assumption | decide | omega | rfl | assumption) hru (by first | with_reducible assumption | decide | omega | rfl | assumption) (by first | with_reducible assumption | decide | omega | rfl | assumption) (hN4) H.size) (cwV 0 hts gwsRX12_leaveAll_0 rfl rfl rfl hd_yX12_leave_RX12 (by decide +kernel)) (fz_pre (va_recv hK hP (ci := 12) (q0 := 0) rfl rfl) hP hK hD) rfl rfl hl.1 rfl (lv_room (Nat.le_of_ble_eq_true rfl)) dX12_leaveAll_29 (by decide +kernel)) hS (fun q _ h => hFc q h) hFc (fun u t9_ H locs ht hvm hw9 hB9 hz1 hk1 hS => ?_)
      revert u hw9 hB9
      refine fz_p5 ?_
      intro g7929 g8629 g8729 g8829 g8929 hw9 hB9
      try dsimp only at hw9 hB9
      have e9F : fT (fT (fT (fT (fT vF 79 g7929) 86 g8629) 87 g8729) 88 g8829) 89 g8929 = fT (fT (fT (fT (fT (fT vF 79 nw) 79 g7929) 86 g8629) 87 g8729) 88 g8829) 89 g8929 := (congrArg (fun g9 => fT (fT (fT (fT g9 86 g8629) 87 g8729) 88 g8829) 89 g8929) (fT_sm _ _ _ _)).symm
      have hP := wr_PF e9F (fz_P ht hB9.1)
      have hD := wr_DF e9F (hB9.2.weaken (fun _ q _ h => hFc q.1 h))
      clear e9F
      have f29_0 := hw9
      try dsimp only at f29_0
      refine W.widen (k := 0) (n := 0) (by decide +kernel) (by decide +kernel) ?_
      exact W.vret hx hb hr (fun t9_ ht hW => ⟨⟨(g7929, g8629, g8729, g8829, g8929), rfl, by (try dsimp only); exact f29_0, by rw [ht]; exact hP, hD⟩, hS.F ht⟩) hS.2.2 dX12_leaveAll_32
    · have t_7 : ¬ ((h5 : Nat) : Int) ≥ ((hn : Nat) : Int) := toI_nge c_7 (nI_toInt (by omega)) (nI_toInt (by omega))
      refine lv_aload_n hx hb dX12_leaveAll_10 rfl (lv_at hl 0 rfl) ?_
      refine va_get (D := (dC, dI)) (ci := 12) (v := .ref (a 79)) (C := RX12) (T := TX12) (N := 163) (fs := fM (vS a vi vj)) hx hb hts iwsRX12_leaveAll_in12 hown hK hP 0 rfl rfl 131 (by decide) (hts (.fieldLink RX12 260 "OptimaWorksModel" "now" "[I") (by decide +kernel)) (fun _ h9 => h9) rfl dX12_leaveAll_11 ?_
      refine lv_iload_n hx hb dX12_leaveAll_14 rfl (lv_at hl 1 rfl) ?_
      refine lv_aload_n hx hb dX12_leaveAll_15 rfl (lv_at hl 0 rfl) ?_
      refine va_get (D := (dC, dI)) (ci := 12) (v := .ref (a 78)) (C := RX12) (T := TX12) (N := 163) (fs := fM (vS a vi vj)) hx hb hts iwsRX12_leaveAll_in12 hown hK hP 0 rfl rfl 130 (by decide) (hts (.fieldLink RX12 257 "OptimaWorksModel" "domain" "[I") (by decide +kernel)) (fun _ h9 => h9) rfl dX12_leaveAll_16 ?_
      refine lv_iload_n hx hb dX12_leaveAll_19 rfl (lv_at hl 1 rfl) ?_
      refine va_iald (cA := k 78) (n := 10) (f := (vF 78)) hx hb hK hP 79 78 (WR_get 78 (by decide)) (TR_get 78 (by decide)) (vp_in_nI (show h5 < 10 by omega) (by omega)) dX12_leaveAll_20 ?_
      refine lv_topi (fun y2 hy2 => ?_)
      obtain rfl : ((vF 78) h5) = y2 := (hy2.trans (by rw [nI_clamp (by omega)])).symm
      refine va_iast (cA := k 79) (n := 10) (f := nw) hx hb hK hP hD hS 80 79 (WR_get 79 (by decide)) (TR_get 79 (by decide)) (vp_in_nI (show h5 < 10 by omega) (by omega)) dX12_leaveAll_21 (fun H locs hP hD hS => ?_)
      have e9 : fT vF 79 (upd nw ((nI h5)).toNatClampNeg ((vF 78) h5)) = fT (fT vF 79 nw) 79 (upd nw ((nI h5)).toNatClampNeg ((vF 78) h5)) := (fT_sm _ _ _ _).symm
      have hP := wr_PF e9 (fz_w (WR_F 79 (by decide) _ rfl) hP)
      have hD := wr_DF e9 (fz_wD (WR_F 79 (by decide) _ rfl) hD)
      clear e9
      refine lv_iinc (v := (nI (h5 + 1))) hx hb dX12_leaveAll_22 hl (k := 1) rfl (nI_add h5 1) (by decide) rfl (fun ls (hl : lv_has ls _ ([(1, .int (nI (h5 + 1))), (0, .ref h0)])) => ?_)
      refine lv_goto (tgt := 2) hx hb dX12_leaveAll_25 (by decide) ?_
      have hl : lv_has _ _ ([(0, .ref h0), (1, .int (nI (h5 + 1)))]) := lv_sub hl [1, 0] rfl
      exact ih2 (h5 + 1) (upd nw ((nI h5)).toNatClampNeg ((vF 78) h5)) _ _ _ (by omega) (fun h hh => by rw [upd_at (by omega)]; by_cases e9 : h = h5; (rw [if_pos e9, ← e9]; exact hDo h (by omega)); (rw [if_neg e9]; exact hz h (by omega))) (by omega) hP hD hS hl
theorem dX12_left_0 : decode cX12_left 0 = .ok (.aload_n 0, 1) := dk_42 (by decide +kernel)
theorem dX12_left_1 : decode cX12_left 1 = .ok (.iconst 0, 1) := dk_3 (by decide +kernel)
theorem dX12_left_2 : decode cX12_left 2 = .ok (.putfield 348, 3) := dk_181 (by decide +kernel)
theorem dX12_left_5 : decode cX12_left 5 = .ok (.aload_n 0, 1) := dk_42 (by decide +kernel)
theorem dX12_left_6 : decode cX12_left 6 = .ok (.iload_n 1, 1) := dk_27 (by decide +kernel)
theorem dX12_left_7 : decode cX12_left 7 = .ok (.invokevirtual 984, 3) := dk_182 (by decide +kernel)
theorem dX12_left_10 : decode cX12_left 10 = .ok (.ifCond .ne 5, 3) := dk_154 (by decide +kernel)
theorem dX12_left_13 : decode cX12_left 13 = .ok (.iconst (-1), 1) := dk_2 (by decide +kernel)
theorem dX12_left_14 : decode cX12_left 14 = .ok (.ireturn, 1) := dk_172 (by decide +kernel)
theorem dX12_left_15 : decode cX12_left 15 = .ok (.aload_n 0, 1) := dk_42 (by decide +kernel)
theorem dX12_left_16 : decode cX12_left 16 = .ok (.iconst 0, 1) := dk_3 (by decide +kernel)
theorem dX12_left_17 : decode cX12_left 17 = .ok (.putfield 1022, 3) := dk_181 (by decide +kernel)
theorem dX12_left_20 : decode cX12_left 20 = .ok (.aload_n 0, 1) := dk_42 (by decide +kernel)
theorem dX12_left_21 : decode cX12_left 21 = .ok (.invokevirtual 1031, 3) := dk_182 (by decide +kernel)
theorem dX12_left_24 : decode cX12_left 24 = .ok (.aload_n 0, 1) := dk_42 (by decide +kernel)
theorem dX12_left_25 : decode cX12_left 25 = .ok (.getfield 260, 3) := dk_180 (by decide +kernel)
theorem dX12_left_28 : decode cX12_left 28 = .ok (.iload_n 1, 1) := dk_27 (by decide +kernel)
theorem dX12_left_29 : decode cX12_left 29 = .ok (.iaload, 1) := dk_46 (by decide +kernel)
theorem dX12_left_30 : decode cX12_left 30 = .ok (.ireturn, 1) := dk_172 (by decide +kernel)
def wsRX12_left : List Cond := .code yX12_left cX12_left 2 (some .int) :: ([.fieldLink RX12 348 "OptimaWorksModel" "thrown" "I", .fieldLink RX12 1022 "OptimaWorksModel" "barred" "I", .fieldLink RX12 260 "OptimaWorksModel" "now" "[I"] ++ wsX120 ++ (wsV RX12 984 RX12 yX12_isHolder wsRX12_isHolder) ++ (wsV RX12 1031 RX12 yX12_leaveAll wsRX12_leaveAll))
theorem iwsRX12_left_in12 : ∀ w ∈ wsX120, w ∈ wsRX12_left := fun _ h => List.mem_cons_of_mem _ (List.mem_append_left _ (List.mem_append_left _ (List.mem_append_right _ h)))
theorem gwsRX12_left_0 : GoodIn wsRX12_left (wsV RX12 984 RX12 yX12_isHolder wsRX12_isHolder) := goodIn_sub (fun _ h => List.mem_cons_of_mem _ (List.mem_append_left _ (List.mem_append_right _ h))) (gdV (by decide +kernel) gdwsRX12_isHolder)
theorem gwsRX12_left_1 : GoodIn wsRX12_left (wsV RX12 1031 RX12 yX12_leaveAll wsRX12_leaveAll) := goodIn_sub (fun _ h => List.mem_cons_of_mem _ (List.mem_append_right _ h)) (gdV (by decide +kernel) gdwsRX12_leaveAll)
theorem gdwsRX12_left : wsRX12_left.all goodWord = true := gdC rfl (gdA (gdA (gdA (by decide +kernel : ([.fieldLink RX12 348 "OptimaWorksModel" "thrown" "I", .fieldLink RX12 1022 "OptimaWorksModel" "barred" "I", .fieldLink RX12 260 "OptimaWorksModel" "now" "[I"] : List Cond).all goodWord = true) gdwsX120) (gdV (by decide +kernel) gdwsRX12_isHolder)) (gdV (by decide +kernel) gdwsRX12_leaveAll))
set_option maxHeartbeats 4000000 in
set_option maxRecDepth 100000 in
/-- left(h) -/
theorem r_X12_left (l : Launch) (dC : Nat → ClassId) (dI : Nat → Nat → Nat) (a : Nat → Nat) (k : Nat → ClassId) (h0 : Nat) (vi : Nat → Int32) (vj : Nat → Int64) (vF : Nat → Nat → Int32) (vG : Nat → Nat → Int64) (hI : Int32) (hn : Nat) (ru : Nat) (hhn : vi 128 = nI hn) (hhn10 : hn ≤ 10) (hru : vi 129 = nI ru) (hru12 : ru ≤ 12) (hRu : RuO (vF 80) (vF 81) (vF 82) (vF 83) hn ru) (hDo : DoO (vF 78) hn) (sz : Nat) : Met l yX12_left wsRX12_left ({ frames := 7, cells := 0, slots := 0, locals := 166 }) (va_Pc [.ref h0, .int hI] (fun U => U.heap.size = sz ∧ va_P (dC, dI) vwCl (WR a k h0 vi vj vF vG) U.heap ∧ va_K (dC, dI) vwCl (tX12 k) U ∧ va_D (fun _ => True) (WR a k h0 vi vj vF vG))) (va_Qi (fun (r : Int32) (u : (Nat → Int32) × (Nat → Int32) × (Nat → Int32) × (Nat → Int32) × (Nat → Int32) × (Int32)) => True) (fun (u : (Nat → Int32) × (Nat → Int32) × (Nat → Int32) × (Nat → Int32) × (Nat → Int32) × (Int32)) t => va_P (dC, dI) vwCl (WR a k h0 (fT (fT vi 0 0) 138 (u.2.2.2.2.2)) vj (fT (fT (fT (fT (fT vF 79 (u.1)) 86 (u.2.1)) 87 (u.2.2.1)) 88 (u.2.2.2.1)) 89 (u.2.2.2.2.1)) vG) t.heap ∧ va_D (va_A (WR a k h0 vi vj vF vG) sz) (WR a k h0 (fT (fT vi 0 0) 138 (u.2.2.2.2.2)) vj (fT (fT (fT (fT (fT vF 79 (u.1)) 86 (u.2.1)) 87 (u.2.2.1)) 88 (u.2.2.2.1)) 89 (u.2.2.2.2.1)) vG)) (va_A (WR a k h0 vi vj vF vG) sz)) 0 0 (va_A (WR a k h0 vi vj vF vG) sz) := by
  refine Met.ofW (cc := cX12_left) (maxL := 2) (ret := (some .int)) (by decide) rfl ?_
  intro p e s m args below meth c s₁ B hml hv
  obtain ⟨rfl, hsz, hP, hK, hD0⟩ := hv
  have hx := B.exec
  have hb := B.bytes
  have hr := B.returns
  have hts := atoms_spec (ws := wsRX12_left) B.pre
  have hown : s.vm.findClass RX12 = some m.cls := findClass_of_methodNamed B.named
  have hlocks := B.notSynchronized
  subst hsz
  have hD := hD0.self (sz := s.heap.size)
  generalize hAe : va_A (WR a k h0 vi vj vF vG) s.heap.size = A at hD ⊢
  have hA : ∀ q : Nat, s.heap.size ≤ q → A q := fun q h => by rw [← hAe]; exact Or.inr h
  have hS : va_S A s.heap s.heap [] := va_S.rf
  have hl := lv_entry ([.ref h0, .int hI]) (n := 2) (Nat.le_of_ble_eq_true rfl)
  rw [lg_entry_eq]
  generalize (lg_sl ([.ref h0, .int hI]) ++ List.replicate (2 - (lg_sl ([.ref h0, .int hI])).length) Slot.unset).toArray = ls at hl ⊢
  have hl : lv_has ls 2 [(0, .ref h0), (1, .int hI)] := hl
  refine lv_aload_n hx hb dX12_left_0 rfl (lv_at hl 0 rfl) ?_
  refine lv_iconst (v := 0) hx hb dX12_left_1 (by decide) ?_
  refine va_put (D := (dC, dI)) (ci := 12) (v := .int 0) (ty := .int) (C := RX12) (T := TX12) (N := 163) (fs := fM (vS a vi vj)) hx hb hts iwsRX12_left_in12 tyX12 tyX12_ok nmX12 hown hK hP hD hS 0 rfl rfl 0 (by decide) (hts (.fieldLink RX12 348 "OptimaWorksModel" "thrown" "I") (by decide +kernel)) (fun _ h9 => h9) rfl (by decide +kernel) rfl rfl (Nat.le_of_ble_eq_true rfl) dX12_left_2 (fun H locs hP hD hS => ?_)
  have hP : va_P (dC, dI) vwCl (WR a k h0 (fT vi 0 0) vj vF vG) H := fz_w (WR_i 0 _ rfl) hP
  have hD : va_D A (WR a k h0 (fT vi 0 0) vj vF vG) := fz_wD (WR_i 0 _ rfl) hD
  refine lv_aload_n hx hb dX12_left_5 rfl (lv_at hl 0 rfl) ?_
  refine lv_iload_n hx hb dX12_left_6 rfl (lv_at hl 1 rfl) ?_
  have hFc := allFree hD hS hA
  refine va_calli (va_runV (As := [.int hI]) (rest := []) ⟨hx, hb, hml, hown, hts⟩ (r_X12_isHolder l dC dI a k h0 (fT vi 0 0) vj vF vG hI hn hhn (by first | with_reducible assumption | decide | omega | rfl | assumption) H.size) (cwV 1 hts gwsRX12_left_0 rfl rfl rfl hd_yX12_isHolder_RX12 (by decide +kernel)) (fz_pre (va_recv hK hP (ci := 12) (q0 := 0) rfl rfl) hP hK hD) rfl rfl hl.1 rfl (lv_room (Nat.le_of_ble_eq_true rfl)) dX12_left_7 (by decide +kernel)) hS (fun q _ h => hFc q h) hFc (fun r7 u t9_ H locs ht hvm hw9 hB9 hz1 hk1 hS => ?_)
  have hP : va_P (dC, dI) vwCl (WR a k h0 (fT vi 0 0) vj vF vG) H := fz_P ht hB9.1
  have hD := fz_sd hP (hB9.2.weaken (fun _ q _ h => hFc q.1 h)) rfl
  rcases hw9 with ⟨rfl, f7_0, f7_1⟩ | ⟨rfl, f7_0⟩
  · refine lv_if_ne (tgt := 15) hx hb dX12_left_10 (by decide) (fun _ => ?_) (fun c9 => absurd c9 (by decide))
    obtain ⟨x5, hx5, ex5⟩ := f7_0
    subst ex5
    refine lv_aload_n hx hb dX12_left_15 rfl (lv_at hl 0 rfl) ?_
    refine lv_iconst (v := 0) hx hb dX12_left_16 (by decide) ?_
    refine va_put (D := (dC, dI)) (ci := 12) (v := .int 0) (ty := .int) (C := RX12) (T := TX12) (N := 163) (fs := fM (vS a (fT vi 0 0) vj)) hx hb hts iwsRX12_left_in12 tyX12 tyX12_ok nmX12 hown hK hP hD hS 0 rfl rfl 138 (by decide) (hts (.fieldLink RX12 1022 "OptimaWorksModel" "barred" "I") (by decide +kernel)) (fun _ h9 => h9) rfl (by decide +kernel) rfl rfl (Nat.le_of_ble_eq_true rfl) dX12_left_17 (fun H locs hP hD hS => ?_)
    have hP : va_P (dC, dI) vwCl (WR a k h0 (fT (fT vi 0 0) 138 0) vj vF vG) H := fz_w (WR_i 138 _ rfl) hP
    have hD : va_D A (WR a k h0 (fT (fT vi 0 0) 138 0) vj vF vG) := fz_wD (WR_i 138 _ rfl) hD
    refine lv_aload_n hx hb dX12_left_20 rfl (lv_at hl 0 rfl) ?_
    have hFc := allFree hD hS hA
    refine va_callv (va_runV (As := []) (rest := []) ⟨hx, hb, hml, hown, hts⟩ (r_X12_leaveAll l dC dI a k h0 (fT (fT vi 0 0) 138 0) vj vF vG hn ru hhn (by first | with_reducible assumption | decide | omega | rfl | assumption) hru (by first | with_reducible assumption | decide | omega | rfl | assumption) (by first | with_reducible assumption | decide | omega | rfl | assumption) (by first | with_reducible assumption | decide | omega | rfl | assumption) H.size) (cwV 0 hts gwsRX12_left_1 rfl rfl rfl hd_yX12_leaveAll_RX12 (by decide +kernel)) (fz_pre (va_recv hK hP (ci := 12) (q0 := 0) rfl rfl) hP hK hD) rfl rfl hl.1 rfl (lv_room (Nat.le_of_ble_eq_true rfl)) dX12_left_21 (by decide +kernel)) hS (fun q _ h => hFc q h) hFc (fun u t9_ H locs ht hvm hw9 hB9 hz1 hk1 hS => ?_)
    revert u hw9 hB9
    refine fz_p5 ?_
    intro g7921 g8621 g8721 g8821 g8921 hw9 hB9
    try dsimp only at hw9 hB9
    have hP : va_P (dC, dI) vwCl (WR a k h0 (fT (fT vi 0 0) 138 0) vj (fT (fT (fT (fT (fT vF 79 g7921) 86 g8621) 87 g8721) 88 g8821) 89 g8921) vG) H := fz_P ht hB9.1
    have hD := fz_sd hP (hB9.2.weaken (fun _ q _ h => hFc q.1 h)) rfl
    have f21_0 := hw9
    try dsimp only at f21_0
    refine lv_aload_n hx hb dX12_left_24 rfl (lv_at hl 0 rfl) ?_
    refine va_get (D := (dC, dI)) (ci := 12) (v := .ref (a 79)) (C := RX12) (T := TX12) (N := 163) (fs := fM (vS a (fT (fT vi 0 0) 138 0) vj)) hx hb hts iwsRX12_left_in12 hown hK hP 0 rfl rfl 131 (by decide) (hts (.fieldLink RX12 260 "OptimaWorksModel" "now" "[I") (by decide +kernel)) (fun _ h9 => h9) rfl dX12_left_25 ?_
    refine lv_iload_n hx hb dX12_left_28 rfl (lv_at hl 1 rfl) ?_
    refine va_iald (cA := k 79) (n := 10) (f := g7921) hx hb hK hP 80 79 (WR_get 79 (by decide)) (TR_get 79 (by decide)) (vp_in_nI (show x5 < 10 by omega) (by omega)) dX12_left_29 ?_
    refine lv_topi (fun y1 hy1 => ?_)
    obtain rfl : (g7921 x5) = y1 := (hy1.trans (by rw [nI_clamp (by omega)])).symm
    refine W.widen (k := 0) (n := 0) (by decide +kernel) (by decide +kernel) ?_
    exact W.iret (v := (g7921 x5)) hx hb hr (fun t9_ ht hW => ⟨⟨(g7921 x5), (g7921, g8621, g8721, g8821, g8921, 0), rfl, trivial, by rw [ht]; exact hP, hD⟩, hS.F ht⟩) hS.2.2 dX12_left_30
  · refine lv_if_ne (tgt := 15) hx hb dX12_left_10 (by decide) (fun c9 => absurd c9 (by decide)) (fun _ => ?_)
    refine lv_iconst (v := (-1)) hx hb dX12_left_13 (by decide) ?_
    refine W.widen (k := 0) (n := 0) (by decide +kernel) (by decide +kernel) ?_
    have e9 : fT (fT vi 0 0) 138 (vi 138) = fT vi 0 0 := fT_id _ _ (fT_ne _ _ (Nat.ne_of_beq_eq_false rfl))
    have hP := wr_Pi e9 hP
    have hD := wr_Di e9 hD
    clear e9
    have e9 : fT (fT (fT (fT (fT vF 79 (vF 79)) 86 (vF 86)) 87 (vF 87)) 88 (vF 88)) 89 (vF 89) = vF := Eq.trans (mv_4 rfl) (Eq.trans (id_4 rfl) (Eq.trans (mv_3 rfl) (Eq.trans (id_3 rfl) (Eq.trans (mv_2 rfl) (Eq.trans (id_2 rfl) (Eq.trans (mv_1 rfl) (Eq.trans (id_1 rfl) (id_0 rfl))))))))
    have hP := wr_PF e9 hP
    have hD := wr_DF e9 hD
    clear e9
    exact W.iret (v := (-1)) hx hb hr (fun t9_ ht hW => ⟨⟨(-1), ((vF 79), (vF 86), (vF 87), (vF 88), (vF 89), (vi 138)), rfl, trivial, by rw [ht]; exact hP, hD⟩, hS.F ht⟩) hS.2.2 dX12_left_14
theorem dX12_reason_0 : decode cX12_reason 0 = .ok (.aload_n 0, 1) := dk_42 (by decide +kernel)
theorem dX12_reason_1 : decode cX12_reason 1 = .ok (.iconst 0, 1) := dk_3 (by decide +kernel)
theorem dX12_reason_2 : decode cX12_reason 2 = .ok (.putfield 348, 3) := dk_181 (by decide +kernel)
theorem dX12_reason_5 : decode cX12_reason 5 = .ok (.aload_n 0, 1) := dk_42 (by decide +kernel)
theorem dX12_reason_6 : decode cX12_reason 6 = .ok (.iload_n 1, 1) := dk_27 (by decide +kernel)
theorem dX12_reason_7 : decode cX12_reason 7 = .ok (.invokevirtual 984, 3) := dk_182 (by decide +kernel)
theorem dX12_reason_10 : decode cX12_reason 10 = .ok (.ifCond .eq 26, 3) := dk_153 (by decide +kernel)
theorem dX12_reason_13 : decode cX12_reason 13 = .ok (.iload_n 2, 1) := dk_28 (by decide +kernel)
theorem dX12_reason_14 : decode cX12_reason 14 = .ok (.ifCond .lt 22, 3) := dk_155 (by decide +kernel)
theorem dX12_reason_17 : decode cX12_reason 17 = .ok (.iload_n 2, 1) := dk_28 (by decide +kernel)
theorem dX12_reason_18 : decode cX12_reason 18 = .ok (.bipush 15, 2) := dk_16 (by decide +kernel)
theorem dX12_reason_20 : decode cX12_reason 20 = .ok (.if_icmp .gt 16, 3) := dk_163 (by decide +kernel)
theorem dX12_reason_23 : decode cX12_reason 23 = .ok (.aload_n 0, 1) := dk_42 (by decide +kernel)
theorem dX12_reason_24 : decode cX12_reason 24 = .ok (.getfield 257, 3) := dk_180 (by decide +kernel)
theorem dX12_reason_27 : decode cX12_reason 27 = .ok (.iload_n 1, 1) := dk_27 (by decide +kernel)
theorem dX12_reason_28 : decode cX12_reason 28 = .ok (.iaload, 1) := dk_46 (by decide +kernel)
theorem dX12_reason_29 : decode cX12_reason 29 = .ok (.iload_n 2, 1) := dk_28 (by decide +kernel)
theorem dX12_reason_30 : decode cX12_reason 30 = .ok (.ishr, 1) := dk_122 (by decide +kernel)
theorem dX12_reason_31 : decode cX12_reason 31 = .ok (.iconst 1, 1) := dk_4 (by decide +kernel)
theorem dX12_reason_32 : decode cX12_reason 32 = .ok (.iand, 1) := dk_126 (by decide +kernel)
theorem dX12_reason_33 : decode cX12_reason 33 = .ok (.ifCond .ne 5, 3) := dk_154 (by decide +kernel)
theorem dX12_reason_36 : decode cX12_reason 36 = .ok (.iconst (-1), 1) := dk_2 (by decide +kernel)
theorem dX12_reason_37 : decode cX12_reason 37 = .ok (.ireturn, 1) := dk_172 (by decide +kernel)
theorem dX12_reason_38 : decode cX12_reason 38 = .ok (.aload_n 0, 1) := dk_42 (by decide +kernel)
theorem dX12_reason_39 : decode cX12_reason 39 = .ok (.iconst 0, 1) := dk_3 (by decide +kernel)
theorem dX12_reason_40 : decode cX12_reason 40 = .ok (.putfield 1022, 3) := dk_181 (by decide +kernel)
theorem dX12_reason_43 : decode cX12_reason 43 = .ok (.aload_n 0, 1) := dk_42 (by decide +kernel)
theorem dX12_reason_44 : decode cX12_reason 44 = .ok (.invokevirtual 1031, 3) := dk_182 (by decide +kernel)
theorem dX12_reason_47 : decode cX12_reason 47 = .ok (.aload_n 0, 1) := dk_42 (by decide +kernel)
theorem dX12_reason_48 : decode cX12_reason 48 = .ok (.getfield 260, 3) := dk_180 (by decide +kernel)
theorem dX12_reason_51 : decode cX12_reason 51 = .ok (.iload_n 1, 1) := dk_27 (by decide +kernel)
theorem dX12_reason_52 : decode cX12_reason 52 = .ok (.iaload, 1) := dk_46 (by decide +kernel)
theorem dX12_reason_53 : decode cX12_reason 53 = .ok (.iload_n 2, 1) := dk_28 (by decide +kernel)
theorem dX12_reason_54 : decode cX12_reason 54 = .ok (.ishr, 1) := dk_122 (by decide +kernel)
theorem dX12_reason_55 : decode cX12_reason 55 = .ok (.iconst 1, 1) := dk_4 (by decide +kernel)
theorem dX12_reason_56 : decode cX12_reason 56 = .ok (.iand, 1) := dk_126 (by decide +kernel)
theorem dX12_reason_57 : decode cX12_reason 57 = .ok (.iconst 1, 1) := dk_4 (by decide +kernel)
theorem dX12_reason_58 : decode cX12_reason 58 = .ok (.if_icmp .ne 5, 3) := dk_160 (by decide +kernel)
theorem dX12_reason_61 : decode cX12_reason 61 = .ok (.iconst (-1), 1) := dk_2 (by decide +kernel)
theorem dX12_reason_62 : decode cX12_reason 62 = .ok (.ireturn, 1) := dk_172 (by decide +kernel)
theorem dX12_reason_63 : decode cX12_reason 63 = .ok (.aload_n 0, 1) := dk_42 (by decide +kernel)
theorem dX12_reason_64 : decode cX12_reason 64 = .ok (.getfield 990, 3) := dk_180 (by decide +kernel)
theorem dX12_reason_67 : decode cX12_reason 67 = .ok (.iconst 1, 1) := dk_4 (by decide +kernel)
theorem dX12_reason_68 : decode cX12_reason 68 = .ok (.isub, 1) := dk_100 (by decide +kernel)
theorem dX12_reason_69 : decode cX12_reason 69 = .ok (.istore_n 3, 1) := dk_62 (by decide +kernel)
theorem dX12_reason_70 : decode cX12_reason 70 = .ok (.iload_n 3, 1) := dk_29 (by decide +kernel)
theorem dX12_reason_71 : decode cX12_reason 71 = .ok (.ifCond .lt 53, 3) := dk_155 (by decide +kernel)
theorem dX12_reason_74 : decode cX12_reason 74 = .ok (.aload_n 0, 1) := dk_42 (by decide +kernel)
theorem dX12_reason_75 : decode cX12_reason 75 = .ok (.dup, 1) := dk_89 (by decide +kernel)
theorem dX12_reason_76 : decode cX12_reason 76 = .ok (.getfield 1022, 3) := dk_180 (by decide +kernel)
theorem dX12_reason_79 : decode cX12_reason 79 = .ok (.iconst 1, 1) := dk_4 (by decide +kernel)
theorem dX12_reason_80 : decode cX12_reason 80 = .ok (.iload_n 3, 1) := dk_29 (by decide +kernel)
theorem dX12_reason_81 : decode cX12_reason 81 = .ok (.ishl, 1) := dk_120 (by decide +kernel)
theorem dX12_reason_82 : decode cX12_reason 82 = .ok (.ior, 1) := dk_128 (by decide +kernel)
theorem dX12_reason_83 : decode cX12_reason 83 = .ok (.putfield 1022, 3) := dk_181 (by decide +kernel)
theorem dX12_reason_86 : decode cX12_reason 86 = .ok (.aload_n 0, 1) := dk_42 (by decide +kernel)
theorem dX12_reason_87 : decode cX12_reason 87 = .ok (.invokevirtual 1031, 3) := dk_182 (by decide +kernel)
theorem dX12_reason_90 : decode cX12_reason 90 = .ok (.aload_n 0, 1) := dk_42 (by decide +kernel)
theorem dX12_reason_91 : decode cX12_reason 91 = .ok (.getfield 260, 3) := dk_180 (by decide +kernel)
theorem dX12_reason_94 : decode cX12_reason 94 = .ok (.iload_n 1, 1) := dk_27 (by decide +kernel)
theorem dX12_reason_95 : decode cX12_reason 95 = .ok (.iaload, 1) := dk_46 (by decide +kernel)
theorem dX12_reason_96 : decode cX12_reason 96 = .ok (.iload_n 2, 1) := dk_28 (by decide +kernel)
theorem dX12_reason_97 : decode cX12_reason 97 = .ok (.ishr, 1) := dk_122 (by decide +kernel)
theorem dX12_reason_98 : decode cX12_reason 98 = .ok (.iconst 1, 1) := dk_4 (by decide +kernel)
theorem dX12_reason_99 : decode cX12_reason 99 = .ok (.iand, 1) := dk_126 (by decide +kernel)
theorem dX12_reason_100 : decode cX12_reason 100 = .ok (.iconst 1, 1) := dk_4 (by decide +kernel)
theorem dX12_reason_101 : decode cX12_reason 101 = .ok (.if_icmp .ne 17, 3) := dk_160 (by decide +kernel)
theorem dX12_reason_104 : decode cX12_reason 104 = .ok (.aload_n 0, 1) := dk_42 (by decide +kernel)
theorem dX12_reason_105 : decode cX12_reason 105 = .ok (.dup, 1) := dk_89 (by decide +kernel)
theorem dX12_reason_106 : decode cX12_reason 106 = .ok (.getfield 1022, 3) := dk_180 (by decide +kernel)
theorem dX12_reason_109 : decode cX12_reason 109 = .ok (.iconst 1, 1) := dk_4 (by decide +kernel)
theorem dX12_reason_110 : decode cX12_reason 110 = .ok (.iload_n 3, 1) := dk_29 (by decide +kernel)
theorem dX12_reason_111 : decode cX12_reason 111 = .ok (.ishl, 1) := dk_120 (by decide +kernel)
theorem dX12_reason_112 : decode cX12_reason 112 = .ok (.iconst (-1), 1) := dk_2 (by decide +kernel)
theorem dX12_reason_113 : decode cX12_reason 113 = .ok (.ixor, 1) := dk_130 (by decide +kernel)
theorem dX12_reason_114 : decode cX12_reason 114 = .ok (.iand, 1) := dk_126 (by decide +kernel)
theorem dX12_reason_115 : decode cX12_reason 115 = .ok (.putfield 1022, 3) := dk_181 (by decide +kernel)
theorem dX12_reason_118 : decode cX12_reason 118 = .ok (.iinc 3 (-1), 3) := dk_132 (by decide +kernel)
theorem dX12_reason_121 : decode cX12_reason 121 = .ok (.goto (-51), 3) := dk_167 (by decide +kernel)
theorem dX12_reason_124 : decode cX12_reason 124 = .ok (.iconst 1, 1) := dk_4 (by decide +kernel)
theorem dX12_reason_125 : decode cX12_reason 125 = .ok (.aload_n 0, 1) := dk_42 (by decide +kernel)
theorem dX12_reason_126 : decode cX12_reason 126 = .ok (.getfield 990, 3) := dk_180 (by decide +kernel)
theorem dX12_reason_129 : decode cX12_reason 129 = .ok (.ishl, 1) := dk_120 (by decide +kernel)
theorem dX12_reason_130 : decode cX12_reason 130 = .ok (.iconst 1, 1) := dk_4 (by decide +kernel)
theorem dX12_reason_131 : decode cX12_reason 131 = .ok (.isub, 1) := dk_100 (by decide +kernel)
theorem dX12_reason_132 : decode cX12_reason 132 = .ok (.aload_n 0, 1) := dk_42 (by decide +kernel)
theorem dX12_reason_133 : decode cX12_reason 133 = .ok (.getfield 1022, 3) := dk_180 (by decide +kernel)
theorem dX12_reason_136 : decode cX12_reason 136 = .ok (.iconst (-1), 1) := dk_2 (by decide +kernel)
theorem dX12_reason_137 : decode cX12_reason 137 = .ok (.ixor, 1) := dk_130 (by decide +kernel)
theorem dX12_reason_138 : decode cX12_reason 138 = .ok (.iand, 1) := dk_126 (by decide +kernel)
theorem dX12_reason_139 : decode cX12_reason 139 = .ok (.ireturn, 1) := dk_172 (by decide +kernel)
def wsRX12_reason : List Cond := .code yX12_reason cX12_reason 4 (some .int) :: ([.fieldLink RX12 348 "OptimaWorksModel" "thrown" "I", .fieldLink RX12 257 "OptimaWorksModel" "domain" "[I", .fieldLink RX12 1022 "OptimaWorksModel" "barred" "I", .fieldLink RX12 260 "OptimaWorksModel" "now" "[I", .fieldLink RX12 990 "OptimaWorksModel" "rules" "I"] ++ wsX120 ++ (wsV RX12 984 RX12 yX12_isHolder wsRX12_isHolder) ++ (wsV RX12 1031 RX12 yX12_leaveAll wsRX12_leaveAll))
theorem iwsRX12_reason_in12 : ∀ w ∈ wsX120, w ∈ wsRX12_reason := fun _ h => List.mem_cons_of_mem _ (List.mem_append_left _ (List.mem_append_left _ (List.mem_append_right _ h)))
theorem gwsRX12_reason_0 : GoodIn wsRX12_reason (wsV RX12 984 RX12 yX12_isHolder wsRX12_isHolder) := goodIn_sub (fun _ h => List.mem_cons_of_mem _ (List.mem_append_left _ (List.mem_append_right _ h))) (gdV (by decide +kernel) gdwsRX12_isHolder)
theorem gwsRX12_reason_1 : GoodIn wsRX12_reason (wsV RX12 1031 RX12 yX12_leaveAll wsRX12_leaveAll) := goodIn_sub (fun _ h => List.mem_cons_of_mem _ (List.mem_append_right _ h)) (gdV (by decide +kernel) gdwsRX12_leaveAll)
theorem gdwsRX12_reason : wsRX12_reason.all goodWord = true := gdC rfl (gdA (gdA (gdA (by decide +kernel : ([.fieldLink RX12 348 "OptimaWorksModel" "thrown" "I", .fieldLink RX12 257 "OptimaWorksModel" "domain" "[I", .fieldLink RX12 1022 "OptimaWorksModel" "barred" "I", .fieldLink RX12 260 "OptimaWorksModel" "now" "[I", .fieldLink RX12 990 "OptimaWorksModel" "rules" "I"] : List Cond).all goodWord = true) gdwsX120) (gdV (by decide +kernel) gdwsRX12_isHolder)) (gdV (by decide +kernel) gdwsRX12_leaveAll))
theorem hm_r_X12_reason_0 : (.fieldLink RX12 1022 "OptimaWorksModel" "barred" "I" : Cond) ∈ wsRX12_reason := by decide +kernel
theorem hm_r_X12_reason_1 : (.fieldLink RX12 260 "OptimaWorksModel" "now" "[I" : Cond) ∈ wsRX12_reason := by decide +kernel
theorem hm_r_X12_reason_2 : (.fieldLink RX12 990 "OptimaWorksModel" "rules" "I" : Cond) ∈ wsRX12_reason := by decide +kernel
set_option maxHeartbeats 4000000 in
set_option maxRecDepth 100000 in
/-- reason(h, v) -/
theorem r_X12_reason (l : Launch) (dC : Nat → ClassId) (dI : Nat → Nat → Nat) (a : Nat → Nat) (k : Nat → ClassId) (h0 : Nat) (vi : Nat → Int32) (vj : Nat → Int64) (vF : Nat → Nat → Int32) (vG : Nat → Nat → Int64) (hI : Int32) (vI : Int32) (hn : Nat) (ru : Nat) (hhn : vi 128 = nI hn) (hhn10 : hn ≤ 10) (hru : vi 129 = nI ru) (hru12 : ru ≤ 12) (hRu : RuO (vF 80) (vF 81) (vF 82) (vF 83) hn ru) (hDo : DoO (vF 78) hn) (sz : Nat) : Met l yX12_reason wsRX12_reason ({ frames := 7, cells := 0, slots := 0, locals := 166 }) (va_Pc [.ref h0, .int hI, .int vI] (fun U => U.heap.size = sz ∧ va_P (dC, dI) vwCl (WR a k h0 vi vj vF vG) U.heap ∧ va_K (dC, dI) vwCl (tX12 k) U ∧ va_D (fun _ => True) (WR a k h0 vi vj vF vG))) (va_Qi (fun (r : Int32) (u : (Nat → Int32) × (Nat → Int32) × (Nat → Int32) × (Nat → Int32) × (Nat → Int32) × (Int32)) => True) (fun (u : (Nat → Int32) × (Nat → Int32) × (Nat → Int32) × (Nat → Int32) × (Nat → Int32) × (Int32)) t => va_P (dC, dI) vwCl (WR a k h0 (fT (fT vi 0 0) 138 (u.2.2.2.2.2)) vj (fT (fT (fT (fT (fT vF 79 (u.1)) 86 (u.2.1)) 87 (u.2.2.1)) 88 (u.2.2.2.1)) 89 (u.2.2.2.2.1)) vG) t.heap ∧ va_D (va_A (WR a k h0 vi vj vF vG) sz) (WR a k h0 (fT (fT vi 0 0) 138 (u.2.2.2.2.2)) vj (fT (fT (fT (fT (fT vF 79 (u.1)) 86 (u.2.1)) 87 (u.2.2.1)) 88 (u.2.2.2.1)) 89 (u.2.2.2.2.1)) vG)) (va_A (WR a k h0 vi vj vF vG) sz)) 0 0 (va_A (WR a k h0 vi vj vF vG) sz) := by
  refine Met.ofW (cc := cX12_reason) (maxL := 4) (ret := (some .int)) (by decide) rfl ?_
  intro p e s m args below meth c s₁ B hml hv
  obtain ⟨rfl, hsz, hP, hK, hD0⟩ := hv
  have hx := B.exec
  have hb := B.bytes
  have hr := B.returns
  have hts := atoms_spec (ws := wsRX12_reason) B.pre
  have hown : s.vm.findClass RX12 = some m.cls := findClass_of_methodNamed B.named
  have hlocks := B.notSynchronized
  subst hsz
  have hD := hD0.self (sz := s.heap.size)
  generalize hAe : va_A (WR a k h0 vi vj vF vG) s.heap.size = A at hD ⊢
  have hA : ∀ q : Nat, s.heap.size ≤ q → A q := fun q h => by rw [← hAe]; exact Or.inr h
  have hS : va_S A s.heap s.heap [] := va_S.rf
  have hl := lv_entry ([.ref h0, .int hI, .int vI]) (n := 4) (Nat.le_of_ble_eq_true rfl)
  rw [lg_entry_eq]
  generalize (lg_sl ([.ref h0, .int hI, .int vI]) ++ List.replicate (4 - (lg_sl ([.ref h0, .int hI, .int vI])).length) Slot.unset).toArray = ls at hl ⊢
  have hl : lv_has ls 4 [(0, .ref h0), (1, .int hI), (2, .int vI)] := hl
  refine lv_aload_n hx hb dX12_reason_0 rfl (lv_at hl 0 rfl) ?_
  refine lv_iconst (v := 0) hx hb dX12_reason_1 (by decide) ?_
  refine va_put (D := (dC, dI)) (ci := 12) (v := .int 0) (ty := .int) (C := RX12) (T := TX12) (N := 163) (fs := fM (vS a vi vj)) hx hb hts iwsRX12_reason_in12 tyX12 tyX12_ok nmX12 hown hK hP hD hS 0 rfl rfl 0 (by decide) (hts (.fieldLink RX12 348 "OptimaWorksModel" "thrown" "I") (by decide +kernel)) (fun _ h9 => h9) rfl (by decide +kernel) rfl rfl (Nat.le_of_ble_eq_true rfl) dX12_reason_2 (fun H locs hP hD hS => ?_)
  have hP : va_P (dC, dI) vwCl (WR a k h0 (fT vi 0 0) vj vF vG) H := fz_w (WR_i 0 _ rfl) hP
  have hD : va_D A (WR a k h0 (fT vi 0 0) vj vF vG) := fz_wD (WR_i 0 _ rfl) hD
  refine lv_aload_n hx hb dX12_reason_5 rfl (lv_at hl 0 rfl) ?_
  refine lv_iload_n hx hb dX12_reason_6 rfl (lv_at hl 1 rfl) ?_
  have hFc := allFree hD hS hA
  refine va_calli (va_runV (As := [.int hI]) (rest := []) ⟨hx, hb, hml, hown, hts⟩ (r_X12_isHolder l dC dI a k h0 (fT vi 0 0) vj vF vG hI hn hhn (by first | with_reducible assumption | decide | omega | rfl | assumption) H.size) (cwV 1 hts gwsRX12_reason_0 rfl rfl rfl hd_yX12_isHolder_RX12 (by decide +kernel)) (fz_pre (va_recv hK hP (ci := 12) (q0 := 0) rfl rfl) hP hK hD) rfl rfl hl.1 rfl (lv_room (Nat.le_of_ble_eq_true rfl)) dX12_reason_7 (by decide +kernel)) hS (fun q _ h => hFc q h) hFc (fun r7 u t9_ H locs ht hvm hw9 hB9 hz1 hk1 hS => ?_)
  have hP : va_P (dC, dI) vwCl (WR a k h0 (fT vi 0 0) vj vF vG) H := fz_P ht hB9.1
  have hD := fz_sd hP (hB9.2.weaken (fun _ q _ h => hFc q.1 h)) rfl
  rcases hw9 with ⟨rfl, f7_0, f7_1⟩ | ⟨rfl, f7_0⟩
  · refine lv_if_eq (tgt := 36) hx hb dX12_reason_10 (by decide) (fun c9 => absurd c9 (by decide)) (fun _ => ?_)
    obtain ⟨x5, hx5, ex5⟩ := f7_0
    subst ex5
    refine lv_iload_n hx hb dX12_reason_13 rfl (lv_at hl 2 rfl) ?_
    refine lv_if_lt (tgt := 36) hx hb dX12_reason_14 (by decide) (fun c_14 => ?_) (fun c_14 => ?_)
    · have t_14 : (vI).toInt < 0 := toI_lt c_14 rfl (by decide)
      refine lv_iconst (v := (-1)) hx hb dX12_reason_36 (by decide) ?_
      refine W.widen (k := 0) (n := 0) (by decide +kernel) (by decide +kernel) ?_
      have e9 : fT (fT vi 0 0) 138 (vi 138) = fT vi 0 0 := fT_id _ _ (fT_ne _ _ (Nat.ne_of_beq_eq_false rfl))
      have hP := wr_Pi e9 hP
      have hD := wr_Di e9 hD
      clear e9
      have e9 : fT (fT (fT (fT (fT vF 79 (vF 79)) 86 (vF 86)) 87 (vF 87)) 88 (vF 88)) 89 (vF 89) = vF := Eq.trans (mv_4 rfl) (Eq.trans (id_4 rfl) (Eq.trans (mv_3 rfl) (Eq.trans (id_3 rfl) (Eq.trans (mv_2 rfl) (Eq.trans (id_2 rfl) (Eq.trans (mv_1 rfl) (Eq.trans (id_1 rfl) (id_0 rfl))))))))
      have hP := wr_PF e9 hP
      have hD := wr_DF e9 hD
      clear e9
      exact W.iret (v := (-1)) hx hb hr (fun t9_ ht hW => ⟨⟨(-1), ((vF 79), (vF 86), (vF 87), (vF 88), (vF 89), (vi 138)), rfl, trivial, by rw [ht]; exact hP, hD⟩, hS.F ht⟩) hS.2.2 dX12_reason_37
    · have t_14 : ¬ (vI).toInt < 0 := toI_nlt c_14 rfl (by decide)
      refine lv_iload_n hx hb dX12_reason_17 rfl (lv_at hl 2 rfl) ?_
      refine lv_bipush (v := 15) hx hb dX12_reason_18 (by decide) ?_
      refine lv_icmp_gt (tgt := 36) hx hb dX12_reason_20 (by decide) (fun c_20 => ?_) (fun c_20 => ?_)
      · have t_20 : (vI).toInt > 15 := toI_gt c_20 rfl (by decide)
        refine lv_iconst (v := (-1)) hx hb dX12_reason_36 (by decide) ?_
        refine W.widen (k := 0) (n := 0) (by decide +kernel) (by decide +kernel) ?_
        have e9 : fT (fT vi 0 0) 138 (vi 138) = fT vi 0 0 := fT_id _ _ (fT_ne _ _ (Nat.ne_of_beq_eq_false rfl))
        have hP := wr_Pi e9 hP
        have hD := wr_Di e9 hD
        clear e9
        have e9 : fT (fT (fT (fT (fT vF 79 (vF 79)) 86 (vF 86)) 87 (vF 87)) 88 (vF 88)) 89 (vF 89) = vF := Eq.trans (mv_4 rfl) (Eq.trans (id_4 rfl) (Eq.trans (mv_3 rfl) (Eq.trans (id_3 rfl) (Eq.trans (mv_2 rfl) (Eq.trans (id_2 rfl) (Eq.trans (mv_1 rfl) (Eq.trans (id_1 rfl) (id_0 rfl))))))))
        have hP := wr_PF e9 hP
        have hD := wr_DF e9 hD
        clear e9
        exact W.iret (v := (-1)) hx hb hr (fun t9_ ht hW => ⟨⟨(-1), ((vF 79), (vF 86), (vF 87), (vF 88), (vF 89), (vi 138)), rfl, trivial, by rw [ht]; exact hP, hD⟩, hS.F ht⟩) hS.2.2 dX12_reason_37
      · have t_20 : ¬ (vI).toInt > 15 := toI_ngt c_20 rfl (by decide)
        refine lv_aload_n hx hb dX12_reason_23 rfl (lv_at hl 0 rfl) ?_
        refine va_get (D := (dC, dI)) (ci := 12) (v := .ref (a 78)) (C := RX12) (T := TX12) (N := 163) (fs := fM (vS a (fT vi 0 0) vj)) hx hb hts iwsRX12_reason_in12 hown hK hP 0 rfl rfl 130 (by decide) (hts (.fieldLink RX12 257 "OptimaWorksModel" "domain" "[I") (by decide +kernel)) (fun _ h9 => h9) rfl dX12_reason_24 ?_
        refine lv_iload_n hx hb dX12_reason_27 rfl (lv_at hl 1 rfl) ?_
        refine va_iald (cA := k 78) (n := 10) (f := (vF 78)) hx hb hK hP 79 78 (WR_get 78 (by decide)) (TR_get 78 (by decide)) (vp_in_nI (show x5 < 10 by omega) (by omega)) dX12_reason_28 ?_
        refine lv_topi (fun y1 hy1 => ?_)
        obtain rfl : ((vF 78) x5) = y1 := (hy1.trans (by rw [nI_clamp (by omega)])).symm
        refine lv_iload_n hx hb dX12_reason_29 rfl (lv_at hl 2 rfl) ?_
        refine lv_ishr hx hb dX12_reason_30 ?_
        refine lv_iconst (v := 1) hx hb dX12_reason_31 (by decide) ?_
        refine lv_iand hx hb dX12_reason_32 ?_
        refine lv_if_ne (tgt := 38) hx hb dX12_reason_33 (by decide) (fun c_33 => ?_) (fun c_33 => ?_)
        · have t_33 : (((((vF 78) x5) >>> (vI &&& 31)) &&& 1)).toInt ≠ 0 := toI_ne c_33 rfl (by decide)
          refine lv_aload_n hx hb dX12_reason_38 rfl (lv_at hl 0 rfl) ?_
          refine lv_iconst (v := 0) hx hb dX12_reason_39 (by decide) ?_
          refine va_put (D := (dC, dI)) (ci := 12) (v := .int 0) (ty := .int) (C := RX12) (T := TX12) (N := 163) (fs := fM (vS a (fT vi 0 0) vj)) hx hb hts iwsRX12_reason_in12 tyX12 tyX12_ok nmX12 hown hK hP hD hS 0 rfl rfl 138 (by decide) (hts _ hm_r_X12_reason_0) (fun _ h9 => h9) rfl (by decide +kernel) rfl rfl (Nat.le_of_ble_eq_true rfl) dX12_reason_40 (fun H locs hP hD hS => ?_)
          have hP : va_P (dC, dI) vwCl (WR a k h0 (fT (fT vi 0 0) 138 0) vj vF vG) H := fz_w (WR_i 138 _ rfl) hP
          have hD : va_D A (WR a k h0 (fT (fT vi 0 0) 138 0) vj vF vG) := fz_wD (WR_i 138 _ rfl) hD
          refine lv_aload_n hx hb dX12_reason_43 rfl (lv_at hl 0 rfl) ?_
          have hFc := allFree hD hS hA
          refine va_callv (va_runV (As := []) (rest := []) ⟨hx, hb, hml, hown, hts⟩ (r_X12_leaveAll l dC dI a k h0 (fT (fT vi 0 0) 138 0) vj vF vG hn ru hhn (by first | with_reducible assumption | decide | omega | rfl | assumption) hru (by first | with_reducible assumption | decide | omega | rfl | assumption) (by first | with_reducible assumption | decide | omega | rfl | assumption) (by first | with_reducible assumption | decide | omega | rfl | assumption) H.size) (cwV 0 hts gwsRX12_reason_1 rfl rfl rfl hd_yX12_leaveAll_RX12 (by decide +kernel)) (fz_pre (va_recv hK hP (ci := 12) (q0 := 0) rfl rfl) hP hK hD) rfl rfl hl.1 rfl (lv_room (Nat.le_of_ble_eq_true rfl)) dX12_reason_44 (by decide +kernel)) hS (fun q _ h => hFc q h) hFc (fun u t9_ H locs ht hvm hw9 hB9 hz1 hk1 hS => ?_)
          revert u hw9 hB9
          refine fz_p5 ?_
          intro g7944 g8644 g8744 g8844 g8944 hw9 hB9
          try dsimp only at hw9 hB9
          have hP : va_P (dC, dI) vwCl (WR a k h0 (fT (fT vi 0 0) 138 0) vj (fT (fT (fT (fT (fT vF 79 g7944) 86 g8644) 87 g8744) 88 g8844) 89 g8944) vG) H := fz_P ht hB9.1
          have hD := fz_sd hP (hB9.2.weaken (fun _ q _ h => hFc q.1 h)) rfl
          have f44_0 := hw9
          try dsimp only at f44_0
          refine lv_aload_n hx hb dX12_reason_47 rfl (lv_at hl 0 rfl) ?_
          refine va_get (D := (dC, dI)) (ci := 12) (v := .ref (a 79)) (C := RX12) (T := TX12) (N := 163) (fs := fM (vS a (fT (fT vi 0 0) 138 0) vj)) hx hb hts iwsRX12_reason_in12 hown hK hP 0 rfl rfl 131 (by decide) (hts _ hm_r_X12_reason_1) (fun _ h9 => h9) rfl dX12_reason_48 ?_
          refine lv_iload_n hx hb dX12_reason_51 rfl (lv_at hl 1 rfl) ?_
          refine va_iald (cA := k 79) (n := 10) (f := g7944) hx hb hK hP 80 79 (WR_get 79 (by decide)) (TR_get 79 (by decide)) (vp_in_nI (show x5 < 10 by omega) (by omega)) dX12_reason_52 ?_
          refine lv_topi (fun y2 hy2 => ?_)
          obtain rfl : (g7944 x5) = y2 := (hy2.trans (by rw [nI_clamp (by omega)])).symm
          refine lv_iload_n hx hb dX12_reason_53 rfl (lv_at hl 2 rfl) ?_
          refine lv_ishr hx hb dX12_reason_54 ?_
          refine lv_iconst (v := 1) hx hb dX12_reason_55 (by decide) ?_
          refine lv_iand hx hb dX12_reason_56 ?_
          refine lv_iconst (v := 1) hx hb dX12_reason_57 (by decide) ?_
          refine lv_icmp_ne (tgt := 63) hx hb dX12_reason_58 (by decide) (fun c_58 => ?_) (fun c_58 => ?_)
          · have t_58 : ((((g7944 x5) >>> (vI &&& 31)) &&& 1)).toInt ≠ 1 := toI_ne c_58 rfl (by decide)
            refine lv_aload_n hx hb dX12_reason_63 rfl (lv_at hl 0 rfl) ?_
            refine va_get (D := (dC, dI)) (ci := 12) (v := .int (vi 129)) (C := RX12) (T := TX12) (N := 163) (fs := fM (vS a (fT (fT vi 0 0) 138 0) vj)) hx hb hts iwsRX12_reason_in12 hown hK hP 0 rfl rfl 129 (by decide) (hts _ hm_r_X12_reason_2) (fun _ h9 => h9) rfl dX12_reason_64 ?_
            refine lv_topi (fun y3 hy3 => ?_)
            obtain rfl : (nI ru) = y3 := (hy3.trans (hru)).symm
            refine lv_iconst (v := 1) hx hb dX12_reason_67 (by decide) ?_
            refine lv_isub hx hb dX12_reason_68 ?_
            refine lv_istore_n hx hb dX12_reason_69 rfl hl (by decide) rfl (fun ls (hl : lv_has ls _ ([(3, .int ((nI ru) - 1)), (0, .ref h0), (1, .int (nI x5)), (2, .int vI)])) => ?_)
            have hl : lv_has _ _ ([(0, .ref h0), (1, .int (nI x5)), (2, .int vI), (3, .int ((nI ru) - 1))]) := lv_sub hl [1, 2, 3, 0] rfl
            refine (fun (loop : ∀ (n9 : Nat) (kq : Int32) (kk1 : Nat) (x2_i138 : Int32) (x2_F79 : Nat → Int32) (x2_F86 : Nat → Int32) (x2_F87 : Nat → Int32) (x2_F88 : Nat → Int32) (x2_F89 : Nat → Int32) (H : Heap) (locs : List Loc) (ls : Array Slot), ((kq).toInt = (kk1 : Int) - 1) → (kk1 ≤ ru) →  (kk1 < n9) → va_P (dC, dI) vwCl (WR a k h0 (fT (fT vi 0 0) 138 x2_i138) vj (fT (fT (fT (fT (fT vF 79 x2_F79) 86 x2_F86) 87 x2_F87) 88 x2_F88) 89 x2_F89) vG) H → va_D A (WR a k h0 (fT (fT vi 0 0) 138 x2_i138) vj (fT (fT (fT (fT (fT vF 79 x2_F79) 86 x2_F86) 87 x2_F87) 88 x2_F88) 89 x2_F89) vG) → va_S A s.heap H locs → lv_has ls 4 [(0, .ref h0), (1, .int (nI x5)), (2, .int vI), (3, .int kq)] → W p l e _ s m _ below meth c H locs 0 0 _ (F0 m 70 ls [])) => loop (ru + 1) ((nI ru) - 1) ru 0 g7944 g8644 g8744 g8844 g8944 _ _ _ (by exact pk_sub_toInt (a := ru) (b := 1) (by omega) (by omega)) (by omega) (by omega) hP hD hS hl) ?_
            intro n9
            induction n9 with
            | zero => intro kq kk1 x2_i138 x2_F79 x2_F86 x2_F87 x2_F88 x2_F89 H locs ls hkq hkn hf9; exact False.elim (by omega)
            | succ n9 ih70 =>
              intro kq kk1 x2_i138 x2_F79 x2_F86 x2_F87 x2_F88 x2_F89 H locs ls hkq hkn hf70 hP hD hS hl
              refine lv_iload_n hx hb dX12_reason_70 rfl (lv_at hl 3 rfl) ?_
              refine lv_if_lt (tgt := 124) hx hb dX12_reason_71 (by decide) (fun c_71 => ?_) (fun c_71 => ?_)
              · have t_71 : (kq).toInt < 0 := toI_lt c_71 rfl (by decide)
                refine lv_iconst (v := 1) hx hb dX12_reason_124 (by decide) ?_
                refine lv_aload_n hx hb dX12_reason_125 rfl (lv_at hl 0 rfl) ?_
                refine va_get (D := (dC, dI)) (ci := 12) (v := .int (vi 129)) (C := RX12) (T := TX12) (N := 163) (fs := fM (vS a (fT (fT vi 0 0) 138 x2_i138) vj)) hx hb hts iwsRX12_reason_in12 hown hK hP 0 rfl rfl 129 (by decide) (hts _ hm_r_X12_reason_2) (fun _ h9 => h9) rfl dX12_reason_126 ?_
                refine lv_topi (fun y4 hy4 => ?_)
                obtain rfl : (nI ru) = y4 := (hy4.trans (hru)).symm
                refine lv_ishl hx hb dX12_reason_129 ?_
                refine lv_iconst (v := 1) hx hb dX12_reason_130 (by decide) ?_
                refine lv_isub hx hb dX12_reason_131 ?_
                refine lv_aload_n hx hb dX12_reason_132 rfl (lv_at hl 0 rfl) ?_
                refine va_get (D := (dC, dI)) (ci := 12) (v := .int x2_i138) (C := RX12) (T := TX12) (N := 163) (fs := fM (vS a (fT (fT vi 0 0) 138 x2_i138) vj)) hx hb hts iwsRX12_reason_in12 hown hK hP 0 rfl rfl 138 (by decide) (hts _ hm_r_X12_reason_0) (fun _ h9 => h9) rfl dX12_reason_133 ?_
                refine lv_iconst (v := (-1)) hx hb dX12_reason_136 (by decide) ?_
                refine lv_ixor hx hb dX12_reason_137 ?_
                refine lv_iand hx hb dX12_reason_138 ?_
                refine W.widen (k := 0) (n := 0) (by decide +kernel) (by decide +kernel) ?_
                exact W.iret (v := (((1 <<< ((nI ru) &&& 31)) - 1) &&& (x2_i138 ^^^ (-1)))) hx hb hr (fun t9_ ht hW => ⟨⟨(((1 <<< ((nI ru) &&& 31)) - 1) &&& (x2_i138 ^^^ (-1))), (x2_F79, x2_F86, x2_F87, x2_F88, x2_F89, x2_i138), rfl, trivial, by rw [ht]; exact hP, hD⟩, hS.F ht⟩) hS.2.2 dX12_reason_139
              · have t_71 : ¬ (kq).toInt < 0 := toI_nlt c_71 rfl (by decide)
                obtain ⟨kk, h_kk, rfl⟩ := of_toInt (x := kq) (k := 12) (by omega) (by omega)
                have e_kk : (nI kk).toInt = (kk : Int) := nI_toInt (by omega)
                refine lv_aload_n hx hb dX12_reason_74 rfl (lv_at hl 0 rfl) ?_
                refine lv_dup hx hb dX12_reason_75 rfl ?_
                refine va_get (D := (dC, dI)) (ci := 12) (v := .int x2_i138) (C := RX12) (T := TX12) (N := 163) (fs := fM (vS a (fT (fT vi 0 0) 138 x2_i138) vj)) hx hb hts iwsRX12_reason_in12 hown hK hP 0 rfl rfl 138 (by decide) (hts _ hm_r_X12_reason_0) (fun _ h9 => h9) rfl dX12_reason_76 ?_
                refine lv_iconst (v := 1) hx hb dX12_reason_79 (by decide) ?_
                refine lv_iload_n hx hb dX12_reason_80 rfl (lv_at hl 3 rfl) ?_
                refine lv_ishl hx hb dX12_reason_81 ?_
                refine lv_ior hx hb dX12_reason_82 ?_
                refine va_put (D := (dC, dI)) (ci := 12) (v := .int (x2_i138 ||| (1 <<< ((nI kk) &&& 31)))) (ty := .int) (C := RX12) (T := TX12) (N := 163) (fs := fM (vS a (fT (fT vi 0 0) 138 x2_i138) vj)) hx hb hts iwsRX12_reason_in12 tyX12 tyX12_ok nmX12 hown hK hP hD hS 0 rfl rfl 138 (by decide) (hts _ hm_r_X12_reason_0) (fun _ h9 => h9) rfl (by decide +kernel) rfl rfl (Nat.le_of_ble_eq_true rfl) dX12_reason_83 (fun H locs hP hD hS => ?_)
                have e9 : fT (fT vi 0 0) 138 (x2_i138 ||| (1 <<< ((nI kk) &&& 31))) = fT (fT (fT vi 0 0) 138 x2_i138) 138 (x2_i138 ||| (1 <<< ((nI kk) &&& 31))) := (fT_sm _ _ _ _).symm
                have hP := wr_Pi e9 (fz_w (WR_i 138 _ rfl) hP)
                have hD := wr_Di e9 (fz_wD (WR_i 138 _ rfl) hD)
                clear e9
                refine lv_aload_n hx hb dX12_reason_86 rfl (lv_at hl 0 rfl) ?_
                have hFc := allFree hD hS hA
                refine va_callv (va_runV (As := []) (rest := []) ⟨hx, hb, hml, hown, hts⟩ (r_X12_leaveAll l dC dI a k h0 (fT (fT vi 0 0) 138 (x2_i138 ||| (1 <<< ((nI kk) &&& 31)))) vj (fT (fT (fT (fT (fT vF 79 x2_F79) 86 x2_F86) 87 x2_F87) 88 x2_F88) 89 x2_F89) vG hn ru hhn (by first | with_reducible assumption | decide | omega | rfl | assumption) hru (by first | with_reducible assumption | decide | omega | rfl | assumption) (by first | with_reducible assumption | decide | omega | rfl | assumption) (by first | with_reducible assumption | decide | omega | rfl | assumption) H.size) (cwV 0 hts gwsRX12_reason_1 rfl rfl rfl hd_yX12_leaveAll_RX12 (by decide +kernel)) (fz_pre (va_recv hK hP (ci := 12) (q0 := 0) rfl rfl) hP hK hD) rfl rfl hl.1 rfl (lv_room (Nat.le_of_ble_eq_true rfl)) dX12_reason_87 (by decide +kernel)) hS (fun q _ h => hFc q h) hFc (fun u t9_ H locs ht hvm hw9 hB9 hz1 hk1 hS => ?_)
                revert u hw9 hB9
                refine fz_p5 ?_
                intro g7987 g8687 g8787 g8887 g8987 hw9 hB9
                try dsimp only at hw9 hB9
                have e9F : fT (fT (fT (fT (fT vF 79 g7987) 86 g8687) 87 g8787) 88 g8887) 89 g8987 = fT (fT (fT (fT (fT (fT (fT (fT (fT (fT vF 79 x2_F79) 86 x2_F86) 87 x2_F87) 88 x2_F88) 89 x2_F89) 79 g7987) 86 g8687) 87 g8787) 88 g8887) 89 g8987 := Eq.symm (Eq.trans (congrArg (fun g9 => fT g9 89 g8987) (Eq.trans (congrArg (fun g9 => fT g9 88 g8887) (Eq.trans (congrArg (fun g9 => fT g9 87 g8787) (Eq.trans (congrArg (fun g9 => fT g9 86 g8687) (up_4 rfl)) (up_3 rfl))) (up_2 rfl))) (up_1 rfl))) (up_0 rfl))
                have hP := wr_PF e9F (fz_P ht hB9.1)
                have hD := wr_DF e9F (hB9.2.weaken (fun _ q _ h => hFc q.1 h))
                clear e9F
                have f87_0 := hw9
                try dsimp only at f87_0
                refine lv_aload_n hx hb dX12_reason_90 rfl (lv_at hl 0 rfl) ?_
                refine va_get (D := (dC, dI)) (ci := 12) (v := .ref (a 79)) (C := RX12) (T := TX12) (N := 163) (fs := fM (vS a (fT (fT vi 0 0) 138 (x2_i138 ||| (1 <<< ((nI kk) &&& 31)))) vj)) hx hb hts iwsRX12_reason_in12 hown hK hP 0 rfl rfl 131 (by decide) (hts _ hm_r_X12_reason_1) (fun _ h9 => h9) rfl dX12_reason_91 ?_
                refine lv_iload_n hx hb dX12_reason_94 rfl (lv_at hl 1 rfl) ?_
                refine va_iald (cA := k 79) (n := 10) (f := g7987) hx hb hK hP 80 79 (WR_get 79 (by decide)) (TR_get 79 (by decide)) (vp_in_nI (show x5 < 10 by omega) (by omega)) dX12_reason_95 ?_
                refine lv_topi (fun y5 hy5 => ?_)
                obtain rfl : (g7987 x5) = y5 := (hy5.trans (by rw [nI_clamp (by omega)])).symm
                refine lv_iload_n hx hb dX12_reason_96 rfl (lv_at hl 2 rfl) ?_
                refine lv_ishr hx hb dX12_reason_97 ?_
                refine lv_iconst (v := 1) hx hb dX12_reason_98 (by decide) ?_
                refine lv_iand hx hb dX12_reason_99 ?_
                refine lv_iconst (v := 1) hx hb dX12_reason_100 (by decide) ?_
                refine W.cut (pc := 118) (fun H locs ls stk => ∃ (j3_i138 : Int32),  stk = [] ∧ va_P (dC, dI) vwCl (WR a k h0 (fT (fT vi 0 0) 138 j3_i138) vj (fT (fT (fT (fT (fT vF 79 g7987) 86 g8687) 87 g8787) 88 g8887) 89 g8987) vG) H ∧ va_D A (WR a k h0 (fT (fT vi 0 0) 138 j3_i138) vj (fT (fT (fT (fT (fT vF 79 g7987) 86 g8687) 87 g8787) 88 g8887) 89 g8987) vG) ∧ va_S A s.heap H locs ∧ lv_has ls 4 [(0, .ref h0), (1, .int (nI x5)), (2, .int vI), (3, .int (nI kk))]) (fun join1 => ?_) ?_
                · refine lv_icmp_ne (tgt := 118) hx hb dX12_reason_101 (by decide) (fun c_101 => ?_) (fun c_101 => ?_)
                  · have t_101 : ((((g7987 x5) >>> (vI &&& 31)) &&& 1)).toInt ≠ 1 := toI_ne c_101 rfl (by decide)
                    have hl : lv_has _ _ ([(0, .ref h0), (1, .int (nI x5)), (2, .int vI), (3, .int (nI kk))]) := lv_sub hl [0, 1, 2, 3] rfl
                    exact join1 _ _ _ _ ⟨(x2_i138 ||| (1 <<< ((nI kk) &&& 31))), rfl, hP, hD, hS, hl⟩
                  · have t_101 : ((((g7987 x5) >>> (vI &&& 31)) &&& 1)).toInt = 1 := toI_nne c_101 rfl (by decide)
                    refine lv_aload_n hx hb dX12_reason_104 rfl (lv_at hl 0 rfl) ?_
                    refine lv_dup hx hb dX12_reason_105 rfl ?_
                    refine va_get (D := (dC, dI)) (ci := 12) (v := .int (x2_i138 ||| (1 <<< ((nI kk) &&& 31)))) (C := RX12) (T := TX12) (N := 163) (fs := fM (vS a (fT (fT vi 0 0) 138 (x2_i138 ||| (1 <<< ((nI kk) &&& 31)))) vj)) hx hb hts iwsRX12_reason_in12 hown hK hP 0 rfl rfl 138 (by decide) (hts _ hm_r_X12_reason_0) (fun _ h9 => h9) rfl dX12_reason_106 ?_
                    refine lv_iconst (v := 1) hx hb dX12_reason_109 (by decide) ?_
                    refine lv_iload_n hx hb dX12_reason_110 rfl (lv_at hl 3 rfl) ?_
                    refine lv_ishl hx hb dX12_reason_111 ?_
                    refine lv_iconst (v := (-1)) hx hb dX12_reason_112 (by decide) ?_
                    refine lv_ixor hx hb dX12_reason_113 ?_
                    refine lv_iand hx hb dX12_reason_114 ?_
                    refine va_put (D := (dC, dI)) (ci := 12) (v := .int ((x2_i138 ||| (1 <<< ((nI kk) &&& 31))) &&& ((1 <<< ((nI kk) &&& 31)) ^^^ (-1)))) (ty := .int) (C := RX12) (T := TX12) (N := 163) (fs := fM (vS a (fT (fT vi 0 0) 138 (x2_i138 ||| (1 <<< ((nI kk) &&& 31)))) vj)) hx hb hts iwsRX12_reason_in12 tyX12 tyX12_ok nmX12 hown hK hP hD hS 0 rfl rfl 138 (by decide) (hts _ hm_r_X12_reason_0) (fun _ h9 => h9) rfl (by decide +kernel) rfl rfl (Nat.le_of_ble_eq_true rfl) dX12_reason_115 (fun H locs hP hD hS => ?_)
                    have e9 : fT (fT vi 0 0) 138 ((x2_i138 ||| (1 <<< ((nI kk) &&& 31))) &&& ((1 <<< ((nI kk) &&& 31)) ^^^ (-1))) = fT (fT (fT vi 0 0) 138 (x2_i138 ||| (1 <<< ((nI kk) &&& 31)))) 138 ((x2_i138 ||| (1 <<< ((nI kk) &&& 31))) &&& ((1 <<< ((nI kk) &&& 31)) ^^^ (-1))) := (fT_sm _ _ _ _).symm
                    have hP := wr_Pi e9 (fz_w (WR_i 138 _ rfl) hP)
                    have hD := wr_Di e9 (fz_wD (WR_i 138 _ rfl) hD)
                    clear e9
                    have hl : lv_has _ _ ([(0, .ref h0), (1, .int (nI x5)), (2, .int vI), (3, .int (nI kk))]) := lv_sub hl [0, 1, 2, 3] rfl
                    exact join1 _ _ _ _ ⟨((x2_i138 ||| (1 <<< ((nI kk) &&& 31))) &&& ((1 <<< ((nI kk) &&& 31)) ^^^ (-1))), rfl, hP, hD, hS, hl⟩
                · rintro H locs ls stk ⟨j3_i138, rfl, hP, hD, hS, hl⟩
                  refine lv_iinc (v := ((nI kk) + (-1))) hx hb dX12_reason_118 hl (k := 3) rfl rfl (by decide) rfl (fun ls (hl : lv_has ls _ ([(3, .int ((nI kk) + (-1))), (0, .ref h0), (1, .int (nI x5)), (2, .int vI)])) => ?_)
                  refine lv_goto (tgt := 70) hx hb dX12_reason_121 (by decide) ?_
                  have hl : lv_has _ _ ([(0, .ref h0), (1, .int (nI x5)), (2, .int vI), (3, .int ((nI kk) + (-1)))]) := lv_sub hl [1, 2, 3, 0] rfl
                  exact ih70 ((nI kk) + (-1)) (kk1 - 1) j3_i138 g7987 g8687 g8787 g8887 g8987 _ _ _ (by rw [m1T (by omega)]; omega) (by omega) (by omega) hP hD hS hl
          · have t_58 : ((((g7944 x5) >>> (vI &&& 31)) &&& 1)).toInt = 1 := toI_nne c_58 rfl (by decide)
            refine lv_iconst (v := (-1)) hx hb dX12_reason_61 (by decide) ?_
            refine W.widen (k := 0) (n := 0) (by decide +kernel) (by decide +kernel) ?_
            exact W.iret (v := (-1)) hx hb hr (fun t9_ ht hW => ⟨⟨(-1), (g7944, g8644, g8744, g8844, g8944, 0), rfl, trivial, by rw [ht]; exact hP, hD⟩, hS.F ht⟩) hS.2.2 dX12_reason_62
        · have t_33 : (((((vF 78) x5) >>> (vI &&& 31)) &&& 1)).toInt = 0 := toI_nne c_33 rfl (by decide)
          refine lv_iconst (v := (-1)) hx hb dX12_reason_36 (by decide) ?_
          refine W.widen (k := 0) (n := 0) (by decide +kernel) (by decide +kernel) ?_
          have e9 : fT (fT vi 0 0) 138 (vi 138) = fT vi 0 0 := fT_id _ _ (fT_ne _ _ (Nat.ne_of_beq_eq_false rfl))
          have hP := wr_Pi e9 hP
          have hD := wr_Di e9 hD
          clear e9
          have e9 : fT (fT (fT (fT (fT vF 79 (vF 79)) 86 (vF 86)) 87 (vF 87)) 88 (vF 88)) 89 (vF 89) = vF := Eq.trans (mv_4 rfl) (Eq.trans (id_4 rfl) (Eq.trans (mv_3 rfl) (Eq.trans (id_3 rfl) (Eq.trans (mv_2 rfl) (Eq.trans (id_2 rfl) (Eq.trans (mv_1 rfl) (Eq.trans (id_1 rfl) (id_0 rfl))))))))
          have hP := wr_PF e9 hP
          have hD := wr_DF e9 hD
          clear e9
          exact W.iret (v := (-1)) hx hb hr (fun t9_ ht hW => ⟨⟨(-1), ((vF 79), (vF 86), (vF 87), (vF 88), (vF 89), (vi 138)), rfl, trivial, by rw [ht]; exact hP, hD⟩, hS.F ht⟩) hS.2.2 dX12_reason_37
  · refine lv_if_eq (tgt := 36) hx hb dX12_reason_10 (by decide) (fun _ => ?_) (fun c9 => absurd (by decide) c9)
    refine lv_iconst (v := (-1)) hx hb dX12_reason_36 (by decide) ?_
    refine W.widen (k := 0) (n := 0) (by decide +kernel) (by decide +kernel) ?_
    have e9 : fT (fT vi 0 0) 138 (vi 138) = fT vi 0 0 := fT_id _ _ (fT_ne _ _ (Nat.ne_of_beq_eq_false rfl))
    have hP := wr_Pi e9 hP
    have hD := wr_Di e9 hD
    clear e9
    have e9 : fT (fT (fT (fT (fT vF 79 (vF 79)) 86 (vF 86)) 87 (vF 87)) 88 (vF 88)) 89 (vF 89) = vF := Eq.trans (mv_4 rfl) (Eq.trans (id_4 rfl) (Eq.trans (mv_3 rfl) (Eq.trans (id_3 rfl) (Eq.trans (mv_2 rfl) (Eq.trans (id_2 rfl) (Eq.trans (mv_1 rfl) (Eq.trans (id_1 rfl) (id_0 rfl))))))))
    have hP := wr_PF e9 hP
    have hD := wr_DF e9 hD
    clear e9
    exact W.iret (v := (-1)) hx hb hr (fun t9_ ht hW => ⟨⟨(-1), ((vF 79), (vF 86), (vF 87), (vF 88), (vF 89), (vi 138)), rfl, trivial, by rw [ht]; exact hP, hD⟩, hS.F ht⟩) hS.2.2 dX12_reason_37
theorem dX12_keepsRule_0 : decode cX12_keepsRule 0 = .ok (.iconst 0, 1) := dk_3 (by decide +kernel)
theorem dX12_keepsRule_1 : decode cX12_keepsRule 1 = .ok (.istore_n 2, 1) := dk_61 (by decide +kernel)
theorem dX12_keepsRule_2 : decode cX12_keepsRule 2 = .ok (.iload_n 2, 1) := dk_28 (by decide +kernel)
theorem dX12_keepsRule_3 : decode cX12_keepsRule 3 = .ok (.aload_n 0, 1) := dk_42 (by decide +kernel)
theorem dX12_keepsRule_4 : decode cX12_keepsRule 4 = .ok (.getfield 978, 3) := dk_180 (by decide +kernel)
theorem dX12_keepsRule_7 : decode cX12_keepsRule 7 = .ok (.if_icmp .ge 23, 3) := dk_162 (by decide +kernel)
theorem dX12_keepsRule_10 : decode cX12_keepsRule 10 = .ok (.aload_n 0, 1) := dk_42 (by decide +kernel)
theorem dX12_keepsRule_11 : decode cX12_keepsRule 11 = .ok (.getfield 281, 3) := dk_180 (by decide +kernel)
theorem dX12_keepsRule_14 : decode cX12_keepsRule 14 = .ok (.iload_n 2, 1) := dk_28 (by decide +kernel)
theorem dX12_keepsRule_15 : decode cX12_keepsRule 15 = .ok (.iconst 1, 1) := dk_4 (by decide +kernel)
theorem dX12_keepsRule_16 : decode cX12_keepsRule 16 = .ok (.aload_n 0, 1) := dk_42 (by decide +kernel)
theorem dX12_keepsRule_17 : decode cX12_keepsRule 17 = .ok (.getfield 293, 3) := dk_180 (by decide +kernel)
theorem dX12_keepsRule_20 : decode cX12_keepsRule 20 = .ok (.iload_n 2, 1) := dk_28 (by decide +kernel)
theorem dX12_keepsRule_21 : decode cX12_keepsRule 21 = .ok (.iaload, 1) := dk_46 (by decide +kernel)
theorem dX12_keepsRule_22 : decode cX12_keepsRule 22 = .ok (.ishl, 1) := dk_120 (by decide +kernel)
theorem dX12_keepsRule_23 : decode cX12_keepsRule 23 = .ok (.iastore, 1) := dk_79 (by decide +kernel)
theorem dX12_keepsRule_24 : decode cX12_keepsRule 24 = .ok (.iinc 2 1, 3) := dk_132 (by decide +kernel)
theorem dX12_keepsRule_27 : decode cX12_keepsRule 27 = .ok (.goto (-25), 3) := dk_167 (by decide +kernel)
theorem dX12_keepsRule_30 : decode cX12_keepsRule 30 = .ok (.aload_n 0, 1) := dk_42 (by decide +kernel)
theorem dX12_keepsRule_31 : decode cX12_keepsRule 31 = .ok (.iload_n 1, 1) := dk_27 (by decide +kernel)
theorem dX12_keepsRule_32 : decode cX12_keepsRule 32 = .ok (.invokevirtual 1019, 3) := dk_182 (by decide +kernel)
theorem dX12_keepsRule_35 : decode cX12_keepsRule 35 = .ok (.ireturn, 1) := dk_172 (by decide +kernel)
def wsRX12_keepsRule : List Cond := .code yX12_keepsRule cX12_keepsRule 3 (some .boolean) :: ([.fieldLink RX12 978 "OptimaWorksModel" "holders" "I", .fieldLink RX12 281 "OptimaWorksModel" "with" "[I", .fieldLink RX12 293 "OptimaWorksModel" "rowValue" "[I"] ++ wsX120 ++ (wsV RX12 1019 RX12 yX12_canHold wsRX12_canHold))
theorem iwsRX12_keepsRule_in12 : ∀ w ∈ wsX120, w ∈ wsRX12_keepsRule := fun _ h => List.mem_cons_of_mem _ (List.mem_append_left _ (List.mem_append_right _ h))
theorem gwsRX12_keepsRule_0 : GoodIn wsRX12_keepsRule (wsV RX12 1019 RX12 yX12_canHold wsRX12_canHold) := goodIn_sub (fun _ h => List.mem_cons_of_mem _ (List.mem_append_right _ h)) (gdV (by decide +kernel) gdwsRX12_canHold)
theorem gdwsRX12_keepsRule : wsRX12_keepsRule.all goodWord = true := gdC rfl (gdA (gdA (by decide +kernel : ([.fieldLink RX12 978 "OptimaWorksModel" "holders" "I", .fieldLink RX12 281 "OptimaWorksModel" "with" "[I", .fieldLink RX12 293 "OptimaWorksModel" "rowValue" "[I"] : List Cond).all goodWord = true) gdwsX120) (gdV (by decide +kernel) gdwsRX12_canHold))
set_option maxHeartbeats 4000000 in
set_option maxRecDepth 100000 in
/-- keepsRule(r) -/
theorem r_X12_keepsRule (l : Launch) (dC : Nat → ClassId) (dI : Nat → Nat → Nat) (a : Nat → Nat) (k : Nat → ClassId) (h0 : Nat) (vi : Nat → Int32) (vj : Nat → Int64) (vF : Nat → Nat → Int32) (vG : Nat → Nat → Int64) (rN : Nat) (hn : Nat) (hrN : rN < 12) (hhn : vi 128 = nI hn) (hhn10 : hn ≤ 10) (hRV : RulV (vF 80 rN) (vF 81 rN) (vF 82 rN) (vF 83 rN) hn) (sz : Nat) : Met l yX12_keepsRule wsRX12_keepsRule ({ frames := 4, cells := 0, slots := 0, locals := 96 }) (va_Pc [.ref h0, .int (nI rN)] (fun U => U.heap.size = sz ∧ va_P (dC, dI) vwCl (WR a k h0 vi vj vF vG) U.heap ∧ va_K (dC, dI) vwCl (tX12 k) U ∧ va_D (fun _ => True) (WR a k h0 vi vj vF vG))) (va_Qi (fun (r : Int32) (u : (Nat → Int32) × (Nat → Int32) × (Nat → Int32) × (Nat → Int32)) => (r = 1) ∨ (r = 0)) (fun (u : (Nat → Int32) × (Nat → Int32) × (Nat → Int32) × (Nat → Int32)) t => va_P (dC, dI) vwCl (WR a k h0 vi vj (fT (fT (fT (fT vF 86 (u.1)) 87 (u.2.1)) 88 (u.2.2.1)) 89 (u.2.2.2)) vG) t.heap ∧ va_D (va_A (WR a k h0 vi vj vF vG) sz) (WR a k h0 vi vj (fT (fT (fT (fT vF 86 (u.1)) 87 (u.2.1)) 88 (u.2.2.1)) 89 (u.2.2.2)) vG)) (va_A (WR a k h0 vi vj vF vG) sz)) 0 0 (va_A (WR a k h0 vi vj vF vG) sz) := by
  refine Met.ofW (cc := cX12_keepsRule) (maxL := 3) (ret := (some .boolean)) (by decide) rfl ?_
  intro p e s m args below meth c s₁ B hml hv
  obtain ⟨rfl, hsz, hP, hK, hD0⟩ := hv
  have hx := B.exec
  have hb := B.bytes
  have hr := B.returns
  have hts := atoms_spec (ws := wsRX12_keepsRule) B.pre
  have hown : s.vm.findClass RX12 = some m.cls := findClass_of_methodNamed B.named
  have hlocks := B.notSynchronized
  subst hsz
  have hD := hD0.self (sz := s.heap.size)
  generalize hAe : va_A (WR a k h0 vi vj vF vG) s.heap.size = A at hD ⊢
  have hA : ∀ q : Nat, s.heap.size ≤ q → A q := fun q h => by rw [← hAe]; exact Or.inr h
  have hS : va_S A s.heap s.heap [] := va_S.rf
  have hl := lv_entry ([.ref h0, .int (nI rN)]) (n := 3) (Nat.le_of_ble_eq_true rfl)
  rw [lg_entry_eq]
  generalize (lg_sl ([.ref h0, .int (nI rN)]) ++ List.replicate (3 - (lg_sl ([.ref h0, .int (nI rN)])).length) Slot.unset).toArray = ls at hl ⊢
  have hl : lv_has ls 3 [(0, .ref h0), (1, .int (nI rN))] := hl
  refine lv_iconst (v := 0) hx hb dX12_keepsRule_0 (by decide) ?_
  refine lv_istore_n hx hb dX12_keepsRule_1 rfl hl (by decide) rfl (fun ls (hl : lv_has ls _ ([(2, .int 0), (0, .ref h0), (1, .int (nI rN))])) => ?_)
  have e9 : fT vF 86 (vF 86) = vF := by funext q9; by_cases h9_86 : q9 = 86; (subst h9_86; exact (fT_eq _ _ _).trans (Eq.trans (by first | with_reducible rfl | with_reducible assumption | (symm; with_reducible assumption) | rfl | assumption | (symm; assumption) | (subst_vars; rfl)) (Eq.refl _).symm)); exact (fT_ne _ _ h9_86).trans (Eq.refl _).symm
  have hP := wr_PF e9 hP
  have hD := wr_DF e9 hD
  clear e9
  have hl : lv_has _ _ ([(0, .ref h0), (1, .int (nI rN)), (2, .int (nI 0))]) := lv_sub hl [1, 2, 0] rfl
  refine (fun (loop : ∀ (n9 : Nat) (i5 : Nat) (x1_F86 : Nat → Int32) (H : Heap) (locs : List Loc) (ls : Array Slot), (i5 ≤ hn) →  (hn < i5 + n9) → va_P (dC, dI) vwCl (WR a k h0 vi vj (fT vF 86 x1_F86) vG) H → va_D A (WR a k h0 vi vj (fT vF 86 x1_F86) vG) → va_S A s.heap H locs → lv_has ls 3 [(0, .ref h0), (1, .int (nI rN)), (2, .int (nI i5))] → W p l e _ s m _ below meth c H locs 0 0 _ (F0 m 2 ls [])) => loop (hn + 1) 0 (vF 86) _ _ _ (by omega) (by omega) hP hD hS hl) ?_
  intro n9
  induction n9 with
  | zero => intro i5 x1_F86 H locs ls hi5 hf9; exact False.elim (by omega)
  | succ n9 ih2 =>
    intro i5 x1_F86 H locs ls hi5 hf2 hP hD hS hl
    refine lv_iload_n hx hb dX12_keepsRule_2 rfl (lv_at hl 2 rfl) ?_
    refine lv_aload_n hx hb dX12_keepsRule_3 rfl (lv_at hl 0 rfl) ?_
    refine va_get (D := (dC, dI)) (ci := 12) (v := .int (vi 128)) (C := RX12) (T := TX12) (N := 163) (fs := fM (vS a vi vj)) hx hb hts iwsRX12_keepsRule_in12 hown hK hP 0 rfl rfl 128 (by decide) (hts (.fieldLink RX12 978 "OptimaWorksModel" "holders" "I") (by decide +kernel)) (fun _ h9 => h9) rfl dX12_keepsRule_4 ?_
    refine lv_topi (fun y1 hy1 => ?_)
    obtain rfl : (nI hn) = y1 := (hy1.trans (hhn)).symm
    refine lv_icmp_ge (tgt := 30) hx hb dX12_keepsRule_7 (by decide) (fun c_7 => ?_) (fun c_7 => ?_)
    · have t_7 : ((i5 : Nat) : Int) ≥ ((hn : Nat) : Int) := toI_ge c_7 (nI_toInt (by omega)) (nI_toInt (by omega))
      refine lv_aload_n hx hb dX12_keepsRule_30 rfl (lv_at hl 0 rfl) ?_
      refine lv_iload_n hx hb dX12_keepsRule_31 rfl (lv_at hl 1 rfl) ?_
      have hFc := allFree hD hS hA
      refine va_calli (va_runV (As := [.int (nI rN)]) (rest := []) ⟨hx, hb, hml, hown, hts⟩ (r_X12_canHold l dC dI a k h0 vi vj (fT vF 86 x1_F86) vG rN hn (by first | with_reducible assumption | decide | omega | rfl | assumption) hhn (by first | with_reducible assumption | decide | omega | rfl | assumption) (hRV) H.size) (cwV 1 hts gwsRX12_keepsRule_0 rfl rfl rfl hd_yX12_canHold_RX12 (by decide +kernel)) (fz_pre (va_recv hK hP (ci := 12) (q0 := 0) rfl rfl) hP hK hD) rfl rfl hl.1 rfl (lv_room (Nat.le_of_ble_eq_true rfl)) dX12_keepsRule_32 (by decide +kernel)) hS (fun q _ h => hFc q h) hFc (fun r32 u t9_ H locs ht hvm hw9 hB9 hz1 hk1 hS => ?_)
      revert u hw9 hB9
      refine fz_p3 ?_
      intro g8732 g8832 g8932 hw9 hB9
      try dsimp only at hw9 hB9
      have hP : va_P (dC, dI) vwCl (WR a k h0 vi vj (fT (fT (fT (fT vF 86 x1_F86) 87 g8732) 88 g8832) 89 g8932) vG) H := fz_P ht hB9.1
      have hD := fz_sd hP (hB9.2.weaken (fun _ q _ h => hFc q.1 h)) rfl
      rcases hw9 with rfl | rfl
      · refine W.widen (k := 0) (n := 0) (by decide +kernel) (by decide +kernel) ?_
        exact W.zret (v := 1) hx hb hr rfl (fun t9_ ht hW => ⟨⟨1, (x1_F86, g8732, g8832, g8932), rfl, by (try dsimp only); exact Or.inl rfl, by rw [ht]; exact hP, hD⟩, hS.F ht⟩) hS.2.2 dX12_keepsRule_35
      · refine W.widen (k := 0) (n := 0) (by decide +kernel) (by decide +kernel) ?_
        exact W.zret (v := 0) hx hb hr rfl (fun t9_ ht hW => ⟨⟨0, (x1_F86, g8732, g8832, g8932), rfl, by (try dsimp only); exact Or.inr rfl, by rw [ht]; exact hP, hD⟩, hS.F ht⟩) hS.2.2 dX12_keepsRule_35
    · have t_7 : ¬ ((i5 : Nat) : Int) ≥ ((hn : Nat) : Int) := toI_nge c_7 (nI_toInt (by omega)) (nI_toInt (by omega))
      refine lv_aload_n hx hb dX12_keepsRule_10 rfl (lv_at hl 0 rfl) ?_
      refine va_get (D := (dC, dI)) (ci := 12) (v := .ref (a 86)) (C := RX12) (T := TX12) (N := 163) (fs := fM (vS a vi vj)) hx hb hts iwsRX12_keepsRule_in12 hown hK hP 0 rfl rfl 139 (by decide) (hts (.fieldLink RX12 281 "OptimaWorksModel" "with" "[I") (by decide +kernel)) (fun _ h9 => h9) rfl dX12_keepsRule_11 ?_
      refine lv_iload_n hx hb dX12_keepsRule_14 rfl (lv_at hl 2 rfl) ?_
      refine lv_iconst (v := 1) hx hb dX12_keepsRule_15 (by decide) ?_
      refine lv_aload_n hx hb dX12_keepsRule_16 rfl (lv_at hl 0 rfl) ?_
      refine va_get (D := (dC, dI)) (ci := 12) (v := .ref (a 90)) (C := RX12) (T := TX12) (N := 163) (fs := fM (vS a vi vj)) hx hb hts iwsRX12_keepsRule_in12 hown hK hP 0 rfl rfl 143 (by decide) (hts (.fieldLink RX12 293 "OptimaWorksModel" "rowValue" "[I") (by decide +kernel)) (fun _ h9 => h9) rfl dX12_keepsRule_17 ?_
      refine lv_iload_n hx hb dX12_keepsRule_20 rfl (lv_at hl 2 rfl) ?_
      refine va_iald (cA := k 90) (n := 10) (f := (vF 90)) hx hb hK hP 91 90 (WR_get 90 (by decide)) (TR_get 90 (by decide)) (vp_in_nI (show i5 < 10 by omega) (by omega)) dX12_keepsRule_21 ?_
      refine lv_topi (fun y2 hy2 => ?_)
      obtain rfl : ((vF 90) i5) = y2 := (hy2.trans (by rw [nI_clamp (by omega)])).symm
      refine lv_ishl hx hb dX12_keepsRule_22 ?_
      refine va_iast (cA := k 86) (n := 10) (f := x1_F86) hx hb hK hP hD hS 87 86 (WR_get 86 (by decide)) (TR_get 86 (by decide)) (vp_in_nI (show i5 < 10 by omega) (by omega)) dX12_keepsRule_23 (fun H locs hP hD hS => ?_)
      have e9 : fT vF 86 (upd x1_F86 ((nI i5)).toNatClampNeg (1 <<< (((vF 90) i5) &&& 31))) = fT (fT vF 86 x1_F86) 86 (upd x1_F86 ((nI i5)).toNatClampNeg (1 <<< (((vF 90) i5) &&& 31))) := (fT_sm _ _ _ _).symm
      have hP := wr_PF e9 (fz_w (WR_F 86 (by decide) _ rfl) hP)
      have hD := wr_DF e9 (fz_wD (WR_F 86 (by decide) _ rfl) hD)
      clear e9
      refine lv_iinc (v := (nI (i5 + 1))) hx hb dX12_keepsRule_24 hl (k := 2) rfl (nI_add i5 1) (by decide) rfl (fun ls (hl : lv_has ls _ ([(2, .int (nI (i5 + 1))), (0, .ref h0), (1, .int (nI rN))])) => ?_)
      refine lv_goto (tgt := 2) hx hb dX12_keepsRule_27 (by decide) ?_
      have hl : lv_has _ _ ([(0, .ref h0), (1, .int (nI rN)), (2, .int (nI (i5 + 1)))]) := lv_sub hl [1, 2, 0] rfl
      exact ih2 (i5 + 1) (upd x1_F86 ((nI i5)).toNatClampNeg (1 <<< (((vF 90) i5) &&& 31))) _ _ _ (by omega) (by omega) hP hD hS hl
theorem dX12_above_0 : decode cX12_above 0 = .ok (.aload_n 0, 1) := dk_42 (by decide +kernel)
theorem dX12_above_1 : decode cX12_above 1 = .ok (.getfield 293, 3) := dk_180 (by decide +kernel)
theorem dX12_above_4 : decode cX12_above 4 = .ok (.iload_n 1, 1) := dk_27 (by decide +kernel)
theorem dX12_above_5 : decode cX12_above 5 = .ok (.iaload, 1) := dk_46 (by decide +kernel)
theorem dX12_above_6 : decode cX12_above 6 = .ok (.iconst 1, 1) := dk_4 (by decide +kernel)
theorem dX12_above_7 : decode cX12_above 7 = .ok (.iadd, 1) := dk_96 (by decide +kernel)
theorem dX12_above_8 : decode cX12_above 8 = .ok (.istore_n 2, 1) := dk_61 (by decide +kernel)
theorem dX12_above_9 : decode cX12_above 9 = .ok (.iload_n 2, 1) := dk_28 (by decide +kernel)
theorem dX12_above_10 : decode cX12_above 10 = .ok (.bipush 16, 2) := dk_16 (by decide +kernel)
theorem dX12_above_12 : decode cX12_above 12 = .ok (.if_icmp .ge 22, 3) := dk_162 (by decide +kernel)
theorem dX12_above_15 : decode cX12_above 15 = .ok (.aload_n 0, 1) := dk_42 (by decide +kernel)
theorem dX12_above_16 : decode cX12_above 16 = .ok (.getfield 257, 3) := dk_180 (by decide +kernel)
theorem dX12_above_19 : decode cX12_above 19 = .ok (.iload_n 1, 1) := dk_27 (by decide +kernel)
theorem dX12_above_20 : decode cX12_above 20 = .ok (.iaload, 1) := dk_46 (by decide +kernel)
theorem dX12_above_21 : decode cX12_above 21 = .ok (.iload_n 2, 1) := dk_28 (by decide +kernel)
theorem dX12_above_22 : decode cX12_above 22 = .ok (.ishr, 1) := dk_122 (by decide +kernel)
theorem dX12_above_23 : decode cX12_above 23 = .ok (.iconst 1, 1) := dk_4 (by decide +kernel)
theorem dX12_above_24 : decode cX12_above 24 = .ok (.iand, 1) := dk_126 (by decide +kernel)
theorem dX12_above_25 : decode cX12_above 25 = .ok (.ifCond .ne 9, 3) := dk_154 (by decide +kernel)
theorem dX12_above_28 : decode cX12_above 28 = .ok (.iinc 2 1, 3) := dk_132 (by decide +kernel)
theorem dX12_above_31 : decode cX12_above 31 = .ok (.goto (-22), 3) := dk_167 (by decide +kernel)
theorem dX12_above_34 : decode cX12_above 34 = .ok (.iload_n 2, 1) := dk_28 (by decide +kernel)
theorem dX12_above_35 : decode cX12_above 35 = .ok (.ireturn, 1) := dk_172 (by decide +kernel)
def wsRX12_above : List Cond := .code yX12_above cX12_above 3 (some .int) :: ([.fieldLink RX12 293 "OptimaWorksModel" "rowValue" "[I", .fieldLink RX12 257 "OptimaWorksModel" "domain" "[I"] ++ wsX120)
theorem iwsRX12_above_in12 : ∀ w ∈ wsX120, w ∈ wsRX12_above := fun _ h => List.mem_cons_of_mem _ (List.mem_append_right _ h)
theorem gdwsRX12_above : wsRX12_above.all goodWord = true := gdC rfl (gdA (by decide +kernel : ([.fieldLink RX12 293 "OptimaWorksModel" "rowValue" "[I", .fieldLink RX12 257 "OptimaWorksModel" "domain" "[I"] : List Cond).all goodWord = true) gdwsX120)
set_option maxHeartbeats 4000000 in
set_option maxRecDepth 100000 in
/-- above(h) -/
theorem r_X12_above (l : Launch) (dC : Nat → ClassId) (dI : Nat → Nat → Nat) (a : Nat → Nat) (k : Nat → ClassId) (h0 : Nat) (vi : Nat → Int32) (vj : Nat → Int64) (vF : Nat → Nat → Int32) (vG : Nat → Nat → Int64) (hN_ : Nat) (hhN : hN_ < 10) (hrv : -1 ≤ (vF 90 hN_).toInt ∧ (vF 90 hN_).toInt ≤ 16) (sz : Nat) : Met l yX12_above wsRX12_above ({ frames := 0, cells := 0, slots := 0, locals := 0 }) (va_Pc [.ref h0, .int (nI hN_)] (fun U => U.heap.size = sz ∧ va_P (dC, dI) vwCl (WR a k h0 vi vj vF vG) U.heap ∧ va_K (dC, dI) vwCl (tX12 k) U ∧ va_D (fun _ => True) (WR a k h0 vi vj vF vG))) (va_Qi (fun (r : Int32) (u : Unit) => ((vF 90 hN_).toInt < (r).toInt ∧ (r).toInt ≤ 17 ∧ ((vF 90 hN_).toInt < 16 → (r).toInt ≤ 16))) (fun (u : Unit) t => va_P (dC, dI) vwCl (WR a k h0 vi vj vF vG) t.heap ∧ va_D (va_A (WR a k h0 vi vj vF vG) sz) (WR a k h0 vi vj vF vG)) (va_A (WR a k h0 vi vj vF vG) sz)) 0 0 (va_A (WR a k h0 vi vj vF vG) sz) := by
  refine Met.ofW (cc := cX12_above) (maxL := 3) (ret := (some .int)) (by decide) rfl ?_
  intro p e s m args below meth c s₁ B hml hv
  obtain ⟨rfl, hsz, hP, hK, hD0⟩ := hv
  have hx := B.exec
  have hb := B.bytes
  have hr := B.returns
  have hts := atoms_spec (ws := wsRX12_above) B.pre
  have hown : s.vm.findClass RX12 = some m.cls := findClass_of_methodNamed B.named
  have hlocks := B.notSynchronized
  subst hsz
  have hD := hD0.self (sz := s.heap.size)
  generalize hAe : va_A (WR a k h0 vi vj vF vG) s.heap.size = A at hD ⊢
  have hA : ∀ q : Nat, s.heap.size ≤ q → A q := fun q h => by rw [← hAe]; exact Or.inr h
  have hS : va_S A s.heap s.heap [] := va_S.rf
  have hl := lv_entry ([.ref h0, .int (nI hN_)]) (n := 3) (Nat.le_of_ble_eq_true rfl)
  rw [lg_entry_eq]
  generalize (lg_sl ([.ref h0, .int (nI hN_)]) ++ List.replicate (3 - (lg_sl ([.ref h0, .int (nI hN_)])).length) Slot.unset).toArray = ls at hl ⊢
  have hl : lv_has ls 3 [(0, .ref h0), (1, .int (nI hN_))] := hl
  obtain ⟨v0, ev0, ev1, ev2⟩ := inc_nI hrv
  refine lv_aload_n hx hb dX12_above_0 rfl (lv_at hl 0 rfl) ?_
  refine va_get (D := (dC, dI)) (ci := 12) (v := .ref (a 90)) (C := RX12) (T := TX12) (N := 163) (fs := fM (vS a vi vj)) hx hb hts iwsRX12_above_in12 hown hK hP 0 rfl rfl 143 (by decide) (hts (.fieldLink RX12 293 "OptimaWorksModel" "rowValue" "[I") (by decide +kernel)) (fun _ h9 => h9) rfl dX12_above_1 ?_
  refine lv_iload_n hx hb dX12_above_4 rfl (lv_at hl 1 rfl) ?_
  refine va_iald (cA := k 90) (n := 10) (f := (vF 90)) hx hb hK hP 91 90 (WR_get 90 (by decide)) (TR_get 90 (by decide)) (vp_in_nI (show hN_ < 10 by omega) (by omega)) dX12_above_5 ?_
  refine lv_topi (fun y1 hy1 => ?_)
  obtain rfl : ((vF 90) hN_) = y1 := (hy1.trans (by rw [nI_clamp (by omega)])).symm
  refine lv_iconst (v := 1) hx hb dX12_above_6 (by decide) ?_
  refine lv_iadd hx hb dX12_above_7 ?_
  refine lv_topi (fun y2 hy2 => ?_)
  obtain rfl : (nI v0) = y2 := (hy2.trans (ev0)).symm
  refine lv_istore_n hx hb dX12_above_8 rfl hl (by decide) rfl (fun ls (hl : lv_has ls _ ([(2, .int (nI v0)), (0, .ref h0), (1, .int (nI hN_))])) => ?_)
  have hl : lv_has _ _ ([(0, .ref h0), (1, .int (nI hN_)), (2, .int (nI v0))]) := lv_sub hl [1, 2, 0] rfl
  refine (fun (loop : ∀ (n9 : Nat) (v5 : Nat) (H : Heap) (locs : List Loc) (ls : Array Slot), (v0 ≤ v5 ∧ v5 ≤ 17 ∧ (v5 = v0 ∨ v5 ≤ 16)) →  (17 < v5 + n9) → va_P (dC, dI) vwCl (WR a k h0 vi vj vF vG) H → va_D A (WR a k h0 vi vj vF vG) → va_S A s.heap H locs → lv_has ls 3 [(0, .ref h0), (1, .int (nI hN_)), (2, .int (nI v5))] → W p l e _ s m _ below meth c H locs 0 0 _ (F0 m 9 ls [])) => loop (18) v0 _ _ _ (by omega) (by omega) hP hD hS hl) ?_
  intro n9
  induction n9 with
  | zero => intro v5 H locs ls hv5 hf9; exact False.elim (by omega)
  | succ n9 ih9 =>
    intro v5 H locs ls hv5 hf9 hP hD hS hl
    refine lv_iload_n hx hb dX12_above_9 rfl (lv_at hl 2 rfl) ?_
    refine lv_bipush (v := 16) hx hb dX12_above_10 (by decide) ?_
    refine lv_icmp_ge (tgt := 34) hx hb dX12_above_12 (by decide) (fun c_12 => ?_) (fun c_12 => ?_)
    · have t_12 : ((v5 : Nat) : Int) ≥ 16 := toI_ge c_12 (nI_toInt (by omega)) (by decide)
      refine lv_iload_n hx hb dX12_above_34 rfl (lv_at hl 2 rfl) ?_
      refine W.widen (k := 0) (n := 0) (by decide +kernel) (by decide +kernel) ?_
      exact W.iret (v := (nI v5)) hx hb hr (fun t9_ ht hW => ⟨⟨(nI v5), (), rfl, by (try dsimp only); rw [nI_toInt (by omega)]; omega, by rw [ht]; exact hP, hD⟩, hS.F ht⟩) hS.2.2 dX12_above_35
    · have t_12 : ¬ ((v5 : Nat) : Int) ≥ 16 := toI_nge c_12 (nI_toInt (by omega)) (by decide)
      refine lv_aload_n hx hb dX12_above_15 rfl (lv_at hl 0 rfl) ?_
      refine va_get (D := (dC, dI)) (ci := 12) (v := .ref (a 78)) (C := RX12) (T := TX12) (N := 163) (fs := fM (vS a vi vj)) hx hb hts iwsRX12_above_in12 hown hK hP 0 rfl rfl 130 (by decide) (hts (.fieldLink RX12 257 "OptimaWorksModel" "domain" "[I") (by decide +kernel)) (fun _ h9 => h9) rfl dX12_above_16 ?_
      refine lv_iload_n hx hb dX12_above_19 rfl (lv_at hl 1 rfl) ?_
      refine va_iald (cA := k 78) (n := 10) (f := (vF 78)) hx hb hK hP 79 78 (WR_get 78 (by decide)) (TR_get 78 (by decide)) (vp_in_nI (show hN_ < 10 by omega) (by omega)) dX12_above_20 ?_
      refine lv_topi (fun y3 hy3 => ?_)
      obtain rfl : ((vF 78) hN_) = y3 := (hy3.trans (by rw [nI_clamp (by omega)])).symm
      refine lv_iload_n hx hb dX12_above_21 rfl (lv_at hl 2 rfl) ?_
      refine lv_ishr hx hb dX12_above_22 ?_
      refine lv_iconst (v := 1) hx hb dX12_above_23 (by decide) ?_
      refine lv_iand hx hb dX12_above_24 ?_
      refine lv_if_ne (tgt := 34) hx hb dX12_above_25 (by decide) (fun c_25 => ?_) (fun c_25 => ?_)
      · have t_25 : (((((vF 78) hN_) >>> ((nI v5) &&& 31)) &&& 1)).toInt ≠ 0 := toI_ne c_25 rfl (by decide)
        refine lv_iload_n hx hb dX12_above_34 rfl (lv_at hl 2 rfl) ?_
        refine W.widen (k := 0) (n := 0) (by decide +kernel) (by decide +kernel) ?_
        exact W.iret (v := (nI v5)) hx hb hr (fun t9_ ht hW => ⟨⟨(nI v5), (), rfl, by (try dsimp only); rw [nI_toInt (by omega)]; omega, by rw [ht]; exact hP, hD⟩, hS.F ht⟩) hS.2.2 dX12_above_35
      · have t_25 : (((((vF 78) hN_) >>> ((nI v5) &&& 31)) &&& 1)).toInt = 0 := toI_nne c_25 rfl (by decide)
        refine lv_iinc (v := (nI (v5 + 1))) hx hb dX12_above_28 hl (k := 2) rfl (nI_add v5 1) (by decide) rfl (fun ls (hl : lv_has ls _ ([(2, .int (nI (v5 + 1))), (0, .ref h0), (1, .int (nI hN_))])) => ?_)
        refine lv_goto (tgt := 9) hx hb dX12_above_31 (by decide) ?_
        have hl : lv_has _ _ ([(0, .ref h0), (1, .int (nI hN_)), (2, .int (nI (v5 + 1)))]) := lv_sub hl [1, 2, 0] rfl
        exact ih9 (v5 + 1) _ _ _ (by omega) (by omega) hP hD hS hl
end
section
theorem hd_yX12_keepsRule_RX12 : yX12_keepsRule.cls = RX12 ∧ yX12_keepsRule.cls ≠ "java/lang/invoke/MethodHandle" ∧ yX12_keepsRule.cls ≠ "java/lang/invoke/VarHandle" ∧ (parseMethodDescriptor yX12_keepsRule.desc).map (fun d => d.parameters.length) = some 1 := by decide +kernel
theorem hd_yX12_above_RX12 : yX12_above.cls = RX12 ∧ yX12_above.cls ≠ "java/lang/invoke/MethodHandle" ∧ yX12_above.cls ≠ "java/lang/invoke/VarHandle" ∧ (parseMethodDescriptor yX12_above.desc).map (fun d => d.parameters.length) = some 1 := by decide +kernel
theorem hd_yX12_list_RX12 : yX12_list.cls = RX12 ∧ yX12_list.cls ≠ "java/lang/invoke/MethodHandle" ∧ yX12_list.cls ≠ "java/lang/invoke/VarHandle" ∧ (parseMethodDescriptor yX12_list.desc).map (fun d => d.parameters.length) = some 0 := by decide +kernel
theorem hd_yX12_listing_RX12 : yX12_listing.cls = RX12 ∧ yX12_listing.cls ≠ "java/lang/invoke/MethodHandle" ∧ yX12_listing.cls ≠ "java/lang/invoke/VarHandle" ∧ (parseMethodDescriptor yX12_listing.desc).map (fun d => d.parameters.length) = some 0 := by decide +kernel
theorem dX12_ones_0 : decode cX12_ones 0 = .ok (.iconst 0, 1) := dk_3 (by decide +kernel)
theorem dX12_ones_1 : decode cX12_ones 1 = .ok (.istore_n 1, 1) := dk_60 (by decide +kernel)
theorem dX12_ones_2 : decode cX12_ones 2 = .ok (.iload_n 0, 1) := dk_26 (by decide +kernel)
theorem dX12_ones_3 : decode cX12_ones 3 = .ok (.istore_n 2, 1) := dk_61 (by decide +kernel)
theorem dX12_ones_4 : decode cX12_ones 4 = .ok (.iload_n 2, 1) := dk_28 (by decide +kernel)
theorem dX12_ones_5 : decode cX12_ones 5 = .ok (.ifCond .le 15, 3) := dk_158 (by decide +kernel)
theorem dX12_ones_8 : decode cX12_ones 8 = .ok (.iinc 1 1, 3) := dk_132 (by decide +kernel)
theorem dX12_ones_11 : decode cX12_ones 11 = .ok (.iload_n 2, 1) := dk_28 (by decide +kernel)
theorem dX12_ones_12 : decode cX12_ones 12 = .ok (.iload_n 2, 1) := dk_28 (by decide +kernel)
theorem dX12_ones_13 : decode cX12_ones 13 = .ok (.iconst 1, 1) := dk_4 (by decide +kernel)
theorem dX12_ones_14 : decode cX12_ones 14 = .ok (.isub, 1) := dk_100 (by decide +kernel)
theorem dX12_ones_15 : decode cX12_ones 15 = .ok (.iand, 1) := dk_126 (by decide +kernel)
theorem dX12_ones_16 : decode cX12_ones 16 = .ok (.istore_n 2, 1) := dk_61 (by decide +kernel)
theorem dX12_ones_17 : decode cX12_ones 17 = .ok (.goto (-13), 3) := dk_167 (by decide +kernel)
theorem dX12_ones_20 : decode cX12_ones 20 = .ok (.iload_n 1, 1) := dk_27 (by decide +kernel)
theorem dX12_ones_21 : decode cX12_ones 21 = .ok (.ireturn, 1) := dk_172 (by decide +kernel)
def wsRonesa : List Cond := .code yX12_ones cX12_ones 3 (some .int) :: ([])
theorem gdwsRonesa : wsRonesa.all goodWord = true := gdC rfl (by decide +kernel : ([] : List Cond).all goodWord = true)
set_option maxHeartbeats 4000000 in
set_option maxRecDepth 100000 in
/-- ones(bits) -/
theorem r_X12_onesa (l : Launch) (dC : Nat → ClassId) (dI : Nat → Nat → Nat) (nn : Nat) (hn9 : nn < 4096) (sz : Nat) : Met l yX12_ones wsRonesa ({ frames := 0, cells := 0, slots := 0, locals := 0 }) (va_Pc [.int (nI nn)] (fun U => U.heap.size = sz ∧ va_P (dC, dI) vwCl [] U.heap ∧ va_K (dC, dI) vwCl [] U ∧ va_D (fun _ => True) [])) (va_Qi (fun (r : Int32) (u : Unit) => r = (nI (cnt nn 12))) (fun (u : Unit) t => True) (va_A [] sz)) 0 0 (va_A [] sz) := by
  refine Met.ofW (cc := cX12_ones) (maxL := 3) (ret := (some .int)) (by decide) rfl ?_
  intro p e s m args below meth c s₁ B hml hv
  obtain ⟨rfl, hsz, hP, hK, hD0⟩ := hv
  have hx := B.exec
  have hb := B.bytes
  have hr := B.returns
  have hts := atoms_spec (ws := wsRonesa) B.pre
  have hown : s.vm.findClass RX12 = some m.cls := findClass_of_methodNamed B.named
  have hlocks := B.notSynchronized
  subst hsz
  have hD := hD0.self (sz := s.heap.size)
  generalize hAe : va_A [] s.heap.size = A at hD ⊢
  have hA : ∀ q : Nat, s.heap.size ≤ q → A q := fun q h => by rw [← hAe]; exact Or.inr h
  have hS : va_S A s.heap s.heap [] := va_S.rf
  have hl := lv_entry ([.int (nI nn)]) (n := 3) (Nat.le_of_ble_eq_true rfl)
  rw [lg_entry_eq]
  generalize (lg_sl ([.int (nI nn)]) ++ List.replicate (3 - (lg_sl ([.int (nI nn)])).length) Slot.unset).toArray = ls at hl ⊢
  have hl : lv_has ls 3 [(0, .int (nI nn))] := hl
  refine lv_iconst (v := 0) hx hb dX12_ones_0 (by decide) ?_
  refine lv_istore_n hx hb dX12_ones_1 rfl hl (by decide) rfl (fun ls (hl : lv_has ls _ ([(1, .int 0), (0, .int (nI nn))])) => ?_)
  refine lv_iload_n hx hb dX12_ones_2 rfl (lv_at hl 1 rfl) ?_
  refine lv_istore_n hx hb dX12_ones_3 rfl hl (by decide) rfl (fun ls (hl : lv_has ls _ ([(2, .int (nI nn)), (1, .int 0), (0, .int (nI nn))])) => ?_)
  have hl : lv_has _ _ ([(2, .int (nI nn)), (1, .int (nI 0)), (0, .int (nI nn))]) := lv_sub hl [0, 1, 2] rfl
  refine (fun (loop : ∀ (n9 : Nat) (bb : Nat) (cc9 : Nat) (H : Heap) (locs : List Loc) (ls : Array Slot), (bb < 4096) → (cc9 + cnt bb 12 = cnt nn 12) →  (bb < n9) → va_P (dC, dI) vwCl ([]) H → va_D A ([]) → va_S A s.heap H locs → lv_has ls 3 [(2, .int (nI bb)), (1, .int (nI cc9)), (0, .int (nI nn))] → W p l e _ s m _ below meth c H locs 0 0 _ (F0 m 4 ls [])) => loop (4096) nn 0 _ _ _ (by omega) (by omega) (by omega) hP hD hS hl) ?_
  intro n9
  induction n9 with
  | zero => intro bb cc9 H locs ls hbb hcc hf9; exact False.elim (by omega)
  | succ n9 ih4 =>
    intro bb cc9 H locs ls hbb hcc hf4 hP hD hS hl
    refine lv_iload_n hx hb dX12_ones_4 rfl (lv_at hl 0 rfl) ?_
    refine lv_if_le (tgt := 20) hx hb dX12_ones_5 (by decide) (fun c_5 => ?_) (fun c_5 => ?_)
    · have t_5 : ((bb : Nat) : Int) ≤ 0 := toI_le c_5 (nI_toInt (by omega)) (by decide)
      refine lv_iload_n hx hb dX12_ones_20 rfl (lv_at hl 1 rfl) ?_
      refine W.widen (k := 0) (n := 0) (by decide +kernel) (by decide +kernel) ?_
      exact W.iret (v := (nI cc9)) hx hb hr (fun t9_ ht hW => ⟨⟨(nI cc9), (), rfl, by (try dsimp only); have e9 : bb = 0 := (by omega); subst e9; have e8 := cnt_0 12; rw [show cc9 = cnt nn 12 by omega], trivial⟩, hS.F ht⟩) hS.2.2 dX12_ones_21
    · have t_5 : ¬ ((bb : Nat) : Int) ≤ 0 := toI_nle c_5 (nI_toInt (by omega)) (by decide)
      refine lv_iinc (v := (nI (cc9 + 1))) hx hb dX12_ones_8 hl (k := 1) rfl (nI_add cc9 1) (by decide) rfl (fun ls (hl : lv_has ls _ ([(1, .int (nI (cc9 + 1))), (2, .int (nI bb)), (0, .int (nI nn))])) => ?_)
      refine lv_iload_n hx hb dX12_ones_11 rfl (lv_at hl 1 rfl) ?_
      refine lv_iload_n hx hb dX12_ones_12 rfl (lv_at hl 1 rfl) ?_
      refine lv_iconst (v := 1) hx hb dX12_ones_13 (by decide) ?_
      refine lv_isub hx hb dX12_ones_14 ?_
      refine lv_topi (fun y1 hy1 => ?_)
      obtain rfl : (nI (bb - 1)) = y1 := (hy1.trans (pk_sub (a := bb) (b := 1) (by omega))).symm
      refine lv_iand hx hb dX12_ones_15 ?_
      refine lv_topi (fun y2 hy2 => ?_)
      obtain rfl : (nI (bb &&& (bb - 1))) = y2 := (hy2.trans (and_nI _ _)).symm
      refine lv_istore_n hx hb dX12_ones_16 rfl hl (by decide) rfl (fun ls (hl : lv_has ls _ ([(2, .int (nI (bb &&& (bb - 1)))), (1, .int (nI (cc9 + 1))), (0, .int (nI nn))])) => ?_)
      have h1 := low_lt bb (by omega)
      have h2 := low_cnt bb (by omega) (by omega)
      refine lv_goto (tgt := 4) hx hb dX12_ones_17 (by decide) ?_
      have hl : lv_has _ _ ([(2, .int (nI (bb &&& (bb - 1)))), (1, .int (nI (cc9 + 1))), (0, .int (nI nn))]) := lv_sub hl [0, 1, 2] rfl
      exact ih4 (bb &&& (bb - 1)) (cc9 + 1) _ _ _ (by omega) (by omega) (by omega) hP hD hS hl
def wsRonesb : List Cond := .code yX12_ones cX12_ones 3 (some .int) :: ([])
theorem gdwsRonesb : wsRonesb.all goodWord = true := gdC rfl (by decide +kernel : ([] : List Cond).all goodWord = true)
set_option maxHeartbeats 4000000 in
set_option maxRecDepth 100000 in
/-- ones(bits), any count -/
theorem r_X12_onesb (l : Launch) (dC : Nat → ClassId) (dI : Nat → Nat → Nat) (nn : Nat) (hn9 : nn < 65536) (sz : Nat) : Met l yX12_ones wsRonesb ({ frames := 0, cells := 0, slots := 0, locals := 0 }) (va_Pc [.int (nI nn)] (fun U => U.heap.size = sz ∧ va_P (dC, dI) vwCl [] U.heap ∧ va_K (dC, dI) vwCl [] U ∧ va_D (fun _ => True) [])) (va_Qi (fun (r : Int32) (u : Unit) => True) (fun (u : Unit) t => True) (va_A [] sz)) 0 0 (va_A [] sz) := by
  refine Met.ofW (cc := cX12_ones) (maxL := 3) (ret := (some .int)) (by decide) rfl ?_
  intro p e s m args below meth c s₁ B hml hv
  obtain ⟨rfl, hsz, hP, hK, hD0⟩ := hv
  have hx := B.exec
  have hb := B.bytes
  have hr := B.returns
  have hts := atoms_spec (ws := wsRonesb) B.pre
  have hown : s.vm.findClass RX12 = some m.cls := findClass_of_methodNamed B.named
  have hlocks := B.notSynchronized
  subst hsz
  have hD := hD0.self (sz := s.heap.size)
  generalize hAe : va_A [] s.heap.size = A at hD ⊢
  have hA : ∀ q : Nat, s.heap.size ≤ q → A q := fun q h => by rw [← hAe]; exact Or.inr h
  have hS : va_S A s.heap s.heap [] := va_S.rf
  have hl := lv_entry ([.int (nI nn)]) (n := 3) (Nat.le_of_ble_eq_true rfl)
  rw [lg_entry_eq]
  generalize (lg_sl ([.int (nI nn)]) ++ List.replicate (3 - (lg_sl ([.int (nI nn)])).length) Slot.unset).toArray = ls at hl ⊢
  have hl : lv_has ls 3 [(0, .int (nI nn))] := hl
  refine lv_iconst (v := 0) hx hb dX12_ones_0 (by decide) ?_
  refine lv_istore_n hx hb dX12_ones_1 rfl hl (by decide) rfl (fun ls (hl : lv_has ls _ ([(1, .int 0), (0, .int (nI nn))])) => ?_)
  refine lv_iload_n hx hb dX12_ones_2 rfl (lv_at hl 1 rfl) ?_
  refine lv_istore_n hx hb dX12_ones_3 rfl hl (by decide) rfl (fun ls (hl : lv_has ls _ ([(2, .int (nI nn)), (1, .int 0), (0, .int (nI nn))])) => ?_)
  have hl : lv_has _ _ ([(2, .int (nI nn)), (1, .int 0), (0, .int (nI nn))]) := lv_sub hl [0, 1, 2] rfl
  refine (fun (loop : ∀ (n9 : Nat) (bb : Nat) (cq : Int32) (H : Heap) (locs : List Loc) (ls : Array Slot), (bb < 65536) →  (bb < n9) → va_P (dC, dI) vwCl ([]) H → va_D A ([]) → va_S A s.heap H locs → lv_has ls 3 [(2, .int (nI bb)), (1, .int cq), (0, .int (nI nn))] → W p l e _ s m _ below meth c H locs 0 0 _ (F0 m 4 ls [])) => loop (65536) nn 0 _ _ _ (by omega) (by omega) hP hD hS hl) ?_
  intro n9
  induction n9 with
  | zero => intro bb cq H locs ls hbb hf9; exact False.elim (by omega)
  | succ n9 ih4 =>
    intro bb cq H locs ls hbb hf4 hP hD hS hl
    refine lv_iload_n hx hb dX12_ones_4 rfl (lv_at hl 0 rfl) ?_
    refine lv_if_le (tgt := 20) hx hb dX12_ones_5 (by decide) (fun c_5 => ?_) (fun c_5 => ?_)
    · have t_5 : ((bb : Nat) : Int) ≤ 0 := toI_le c_5 (nI_toInt (by omega)) (by decide)
      refine lv_iload_n hx hb dX12_ones_20 rfl (lv_at hl 1 rfl) ?_
      refine W.widen (k := 0) (n := 0) (by decide +kernel) (by decide +kernel) ?_
      exact W.iret (v := cq) hx hb hr (fun t9_ ht hW => ⟨⟨cq, (), rfl, trivial, trivial⟩, hS.F ht⟩) hS.2.2 dX12_ones_21
    · have t_5 : ¬ ((bb : Nat) : Int) ≤ 0 := toI_nle c_5 (nI_toInt (by omega)) (by decide)
      refine lv_iinc (v := (cq + 1)) hx hb dX12_ones_8 hl (k := 1) rfl rfl (by decide) rfl (fun ls (hl : lv_has ls _ ([(1, .int (cq + 1)), (2, .int (nI bb)), (0, .int (nI nn))])) => ?_)
      refine lv_iload_n hx hb dX12_ones_11 rfl (lv_at hl 1 rfl) ?_
      refine lv_iload_n hx hb dX12_ones_12 rfl (lv_at hl 1 rfl) ?_
      refine lv_iconst (v := 1) hx hb dX12_ones_13 (by decide) ?_
      refine lv_isub hx hb dX12_ones_14 ?_
      refine lv_topi (fun y1 hy1 => ?_)
      obtain rfl : (nI (bb - 1)) = y1 := (hy1.trans (pk_sub (a := bb) (b := 1) (by omega))).symm
      refine lv_iand hx hb dX12_ones_15 ?_
      refine lv_topi (fun y2 hy2 => ?_)
      obtain rfl : (nI (bb &&& (bb - 1))) = y2 := (hy2.trans (and_nI _ _)).symm
      refine lv_istore_n hx hb dX12_ones_16 rfl hl (by decide) rfl (fun ls (hl : lv_has ls _ ([(2, .int (nI (bb &&& (bb - 1)))), (1, .int (cq + 1)), (0, .int (nI nn))])) => ?_)
      have h1 := low_lt bb (by omega)
      refine lv_goto (tgt := 4) hx hb dX12_ones_17 (by decide) ?_
      have hl : lv_has _ _ ([(2, .int (nI (bb &&& (bb - 1)))), (1, .int (cq + 1)), (0, .int (nI nn))]) := lv_sub hl [0, 1, 2] rfl
      exact ih4 (bb &&& (bb - 1)) (cq + 1) _ _ _ (by omega) (by omega) hP hD hS hl
theorem dX12_list_0 : decode cX12_list 0 = .ok (.iconst 0, 1) := dk_3 (by decide +kernel)
theorem dX12_list_1 : decode cX12_list 1 = .ok (.istore_n 1, 1) := dk_60 (by decide +kernel)
theorem dX12_list_2 : decode cX12_list 2 = .ok (.iload_n 1, 1) := dk_27 (by decide +kernel)
theorem dX12_list_3 : decode cX12_list 3 = .ok (.aload_n 0, 1) := dk_42 (by decide +kernel)
theorem dX12_list_4 : decode cX12_list 4 = .ok (.getfield 978, 3) := dk_180 (by decide +kernel)
theorem dX12_list_7 : decode cX12_list 7 = .ok (.if_icmp .ge 27, 3) := dk_162 (by decide +kernel)
theorem dX12_list_10 : decode cX12_list 10 = .ok (.aload_n 0, 1) := dk_42 (by decide +kernel)
theorem dX12_list_11 : decode cX12_list 11 = .ok (.getfield 293, 3) := dk_180 (by decide +kernel)
theorem dX12_list_14 : decode cX12_list 14 = .ok (.iload_n 1, 1) := dk_27 (by decide +kernel)
theorem dX12_list_15 : decode cX12_list 15 = .ok (.iconst (-1), 1) := dk_2 (by decide +kernel)
theorem dX12_list_16 : decode cX12_list 16 = .ok (.iastore, 1) := dk_79 (by decide +kernel)
theorem dX12_list_17 : decode cX12_list 17 = .ok (.aload_n 0, 1) := dk_42 (by decide +kernel)
theorem dX12_list_18 : decode cX12_list 18 = .ok (.getfield 293, 3) := dk_180 (by decide +kernel)
theorem dX12_list_21 : decode cX12_list 21 = .ok (.iload_n 1, 1) := dk_27 (by decide +kernel)
theorem dX12_list_22 : decode cX12_list 22 = .ok (.aload_n 0, 1) := dk_42 (by decide +kernel)
theorem dX12_list_23 : decode cX12_list 23 = .ok (.iload_n 1, 1) := dk_27 (by decide +kernel)
theorem dX12_list_24 : decode cX12_list 24 = .ok (.invokevirtual 1034, 3) := dk_182 (by decide +kernel)
theorem dX12_list_27 : decode cX12_list 27 = .ok (.iastore, 1) := dk_79 (by decide +kernel)
theorem dX12_list_28 : decode cX12_list 28 = .ok (.iinc 1 1, 3) := dk_132 (by decide +kernel)
theorem dX12_list_31 : decode cX12_list 31 = .ok (.goto (-29), 3) := dk_167 (by decide +kernel)
theorem dX12_list_34 : decode cX12_list 34 = .ok (.iconst 0, 1) := dk_3 (by decide +kernel)
theorem dX12_list_35 : decode cX12_list 35 = .ok (.istore_n 1, 1) := dk_60 (by decide +kernel)
theorem dX12_list_36 : decode cX12_list 36 = .ok (.iconst 1, 1) := dk_4 (by decide +kernel)
theorem dX12_list_37 : decode cX12_list 37 = .ok (.istore_n 2, 1) := dk_61 (by decide +kernel)
theorem dX12_list_38 : decode cX12_list 38 = .ok (.iload_n 2, 1) := dk_28 (by decide +kernel)
theorem dX12_list_39 : decode cX12_list 39 = .ok (.ifCond .eq 181, 3) := dk_153 (by decide +kernel)
theorem dX12_list_42 : decode cX12_list 42 = .ok (.iload_n 1, 1) := dk_27 (by decide +kernel)
theorem dX12_list_43 : decode cX12_list 43 = .ok (.sipush 5000, 3) := dk_17 (by decide +kernel)
theorem dX12_list_46 : decode cX12_list 46 = .ok (.if_icmp .ge 174, 3) := dk_162 (by decide +kernel)
theorem dX12_list_49 : decode cX12_list 49 = .ok (.iconst 1, 1) := dk_4 (by decide +kernel)
theorem dX12_list_50 : decode cX12_list 50 = .ok (.istore_n 3, 1) := dk_62 (by decide +kernel)
theorem dX12_list_51 : decode cX12_list 51 = .ok (.iconst 0, 1) := dk_3 (by decide +kernel)
theorem dX12_list_52 : decode cX12_list 52 = .ok (.istore 4, 2) := dk_54 (by decide +kernel)
theorem dX12_list_54 : decode cX12_list 54 = .ok (.iload 4, 2) := dk_21 (by decide +kernel)
theorem dX12_list_56 : decode cX12_list 56 = .ok (.aload_n 0, 1) := dk_42 (by decide +kernel)
theorem dX12_list_57 : decode cX12_list 57 = .ok (.getfield 990, 3) := dk_180 (by decide +kernel)
theorem dX12_list_60 : decode cX12_list 60 = .ok (.if_icmp .ge 20, 3) := dk_162 (by decide +kernel)
theorem dX12_list_63 : decode cX12_list 63 = .ok (.iload_n 3, 1) := dk_29 (by decide +kernel)
theorem dX12_list_64 : decode cX12_list 64 = .ok (.ifCond .eq 16, 3) := dk_153 (by decide +kernel)
theorem dX12_list_67 : decode cX12_list 67 = .ok (.aload_n 0, 1) := dk_42 (by decide +kernel)
theorem dX12_list_68 : decode cX12_list 68 = .ok (.iload 4, 2) := dk_21 (by decide +kernel)
theorem dX12_list_70 : decode cX12_list 70 = .ok (.invokevirtual 1037, 3) := dk_182 (by decide +kernel)
theorem dX12_list_73 : decode cX12_list 73 = .ok (.istore_n 3, 1) := dk_62 (by decide +kernel)
theorem dX12_list_74 : decode cX12_list 74 = .ok (.iinc 4 1, 3) := dk_132 (by decide +kernel)
theorem dX12_list_77 : decode cX12_list 77 = .ok (.goto (-23), 3) := dk_167 (by decide +kernel)
theorem dX12_list_80 : decode cX12_list 80 = .ok (.iconst 0, 1) := dk_3 (by decide +kernel)
theorem dX12_list_81 : decode cX12_list 81 = .ok (.istore 4, 2) := dk_54 (by decide +kernel)
theorem dX12_list_83 : decode cX12_list 83 = .ok (.iload 4, 2) := dk_21 (by decide +kernel)
theorem dX12_list_85 : decode cX12_list 85 = .ok (.aload_n 0, 1) := dk_42 (by decide +kernel)
theorem dX12_list_86 : decode cX12_list 86 = .ok (.getfield 978, 3) := dk_180 (by decide +kernel)
theorem dX12_list_89 : decode cX12_list 89 = .ok (.if_icmp .ge 32, 3) := dk_162 (by decide +kernel)
theorem dX12_list_92 : decode cX12_list 92 = .ok (.iload_n 3, 1) := dk_29 (by decide +kernel)
theorem dX12_list_93 : decode cX12_list 93 = .ok (.ifCond .eq 28, 3) := dk_153 (by decide +kernel)
theorem dX12_list_96 : decode cX12_list 96 = .ok (.aload_n 0, 1) := dk_42 (by decide +kernel)
theorem dX12_list_97 : decode cX12_list 97 = .ok (.getfield 297, 3) := dk_180 (by decide +kernel)
theorem dX12_list_100 : decode cX12_list 100 = .ok (.bipush 10, 2) := dk_16 (by decide +kernel)
theorem dX12_list_102 : decode cX12_list 102 = .ok (.iload_n 1, 1) := dk_27 (by decide +kernel)
theorem dX12_list_103 : decode cX12_list 103 = .ok (.imul, 1) := dk_104 (by decide +kernel)
theorem dX12_list_104 : decode cX12_list 104 = .ok (.iload 4, 2) := dk_21 (by decide +kernel)
theorem dX12_list_106 : decode cX12_list 106 = .ok (.iadd, 1) := dk_96 (by decide +kernel)
theorem dX12_list_107 : decode cX12_list 107 = .ok (.aload_n 0, 1) := dk_42 (by decide +kernel)
theorem dX12_list_108 : decode cX12_list 108 = .ok (.getfield 293, 3) := dk_180 (by decide +kernel)
theorem dX12_list_111 : decode cX12_list 111 = .ok (.iload 4, 2) := dk_21 (by decide +kernel)
theorem dX12_list_113 : decode cX12_list 113 = .ok (.iaload, 1) := dk_46 (by decide +kernel)
theorem dX12_list_114 : decode cX12_list 114 = .ok (.iastore, 1) := dk_79 (by decide +kernel)
theorem dX12_list_115 : decode cX12_list 115 = .ok (.iinc 4 1, 3) := dk_132 (by decide +kernel)
theorem dX12_list_118 : decode cX12_list 118 = .ok (.goto (-35), 3) := dk_167 (by decide +kernel)
theorem dX12_list_121 : decode cX12_list 121 = .ok (.iload_n 1, 1) := dk_27 (by decide +kernel)
theorem dX12_list_122 : decode cX12_list 122 = .ok (.iload_n 3, 1) := dk_29 (by decide +kernel)
theorem dX12_list_123 : decode cX12_list 123 = .ok (.ifCond .eq 7, 3) := dk_153 (by decide +kernel)
theorem dX12_list_126 : decode cX12_list 126 = .ok (.iconst 1, 1) := dk_4 (by decide +kernel)
theorem dX12_list_127 : decode cX12_list 127 = .ok (.goto 4, 3) := dk_167 (by decide +kernel)
theorem dX12_list_130 : decode cX12_list 130 = .ok (.iconst 0, 1) := dk_3 (by decide +kernel)
theorem dX12_list_131 : decode cX12_list 131 = .ok (.iadd, 1) := dk_96 (by decide +kernel)
theorem dX12_list_132 : decode cX12_list 132 = .ok (.istore_n 1, 1) := dk_60 (by decide +kernel)
theorem dX12_list_133 : decode cX12_list 133 = .ok (.iconst 0, 1) := dk_3 (by decide +kernel)
theorem dX12_list_134 : decode cX12_list 134 = .ok (.istore_n 2, 1) := dk_61 (by decide +kernel)
theorem dX12_list_135 : decode cX12_list 135 = .ok (.aload_n 0, 1) := dk_42 (by decide +kernel)
theorem dX12_list_136 : decode cX12_list 136 = .ok (.getfield 978, 3) := dk_180 (by decide +kernel)
theorem dX12_list_139 : decode cX12_list 139 = .ok (.iconst 1, 1) := dk_4 (by decide +kernel)
theorem dX12_list_140 : decode cX12_list 140 = .ok (.isub, 1) := dk_100 (by decide +kernel)
theorem dX12_list_141 : decode cX12_list 141 = .ok (.istore 4, 2) := dk_54 (by decide +kernel)
theorem dX12_list_143 : decode cX12_list 143 = .ok (.iload 4, 2) := dk_21 (by decide +kernel)
theorem dX12_list_145 : decode cX12_list 145 = .ok (.ifCond .lt 72, 3) := dk_155 (by decide +kernel)
theorem dX12_list_148 : decode cX12_list 148 = .ok (.iload_n 2, 1) := dk_28 (by decide +kernel)
theorem dX12_list_149 : decode cX12_list 149 = .ok (.ifCond .ne 68, 3) := dk_154 (by decide +kernel)
theorem dX12_list_152 : decode cX12_list 152 = .ok (.aload_n 0, 1) := dk_42 (by decide +kernel)
theorem dX12_list_153 : decode cX12_list 153 = .ok (.getfield 293, 3) := dk_180 (by decide +kernel)
theorem dX12_list_156 : decode cX12_list 156 = .ok (.iload 4, 2) := dk_21 (by decide +kernel)
theorem dX12_list_158 : decode cX12_list 158 = .ok (.aload_n 0, 1) := dk_42 (by decide +kernel)
theorem dX12_list_159 : decode cX12_list 159 = .ok (.iload 4, 2) := dk_21 (by decide +kernel)
theorem dX12_list_161 : decode cX12_list 161 = .ok (.invokevirtual 1034, 3) := dk_182 (by decide +kernel)
theorem dX12_list_164 : decode cX12_list 164 = .ok (.iastore, 1) := dk_79 (by decide +kernel)
theorem dX12_list_165 : decode cX12_list 165 = .ok (.aload_n 0, 1) := dk_42 (by decide +kernel)
theorem dX12_list_166 : decode cX12_list 166 = .ok (.getfield 293, 3) := dk_180 (by decide +kernel)
theorem dX12_list_169 : decode cX12_list 169 = .ok (.iload 4, 2) := dk_21 (by decide +kernel)
theorem dX12_list_171 : decode cX12_list 171 = .ok (.iaload, 1) := dk_46 (by decide +kernel)
theorem dX12_list_172 : decode cX12_list 172 = .ok (.bipush 16, 2) := dk_16 (by decide +kernel)
theorem dX12_list_174 : decode cX12_list 174 = .ok (.if_icmp .ge 7, 3) := dk_162 (by decide +kernel)
theorem dX12_list_177 : decode cX12_list 177 = .ok (.iconst 1, 1) := dk_4 (by decide +kernel)
theorem dX12_list_178 : decode cX12_list 178 = .ok (.goto 4, 3) := dk_167 (by decide +kernel)
theorem dX12_list_181 : decode cX12_list 181 = .ok (.iconst 0, 1) := dk_3 (by decide +kernel)
theorem dX12_list_182 : decode cX12_list 182 = .ok (.istore_n 2, 1) := dk_61 (by decide +kernel)
theorem dX12_list_183 : decode cX12_list 183 = .ok (.iload_n 2, 1) := dk_28 (by decide +kernel)
theorem dX12_list_184 : decode cX12_list 184 = .ok (.ifCond .eq 6, 3) := dk_153 (by decide +kernel)
theorem dX12_list_187 : decode cX12_list 187 = .ok (.goto 24, 3) := dk_167 (by decide +kernel)
theorem dX12_list_190 : decode cX12_list 190 = .ok (.aload_n 0, 1) := dk_42 (by decide +kernel)
theorem dX12_list_191 : decode cX12_list 191 = .ok (.getfield 293, 3) := dk_180 (by decide +kernel)
theorem dX12_list_194 : decode cX12_list 194 = .ok (.iload 4, 2) := dk_21 (by decide +kernel)
theorem dX12_list_196 : decode cX12_list 196 = .ok (.iconst (-1), 1) := dk_2 (by decide +kernel)
theorem dX12_list_197 : decode cX12_list 197 = .ok (.iastore, 1) := dk_79 (by decide +kernel)
theorem dX12_list_198 : decode cX12_list 198 = .ok (.aload_n 0, 1) := dk_42 (by decide +kernel)
theorem dX12_list_199 : decode cX12_list 199 = .ok (.getfield 293, 3) := dk_180 (by decide +kernel)
theorem dX12_list_202 : decode cX12_list 202 = .ok (.iload 4, 2) := dk_21 (by decide +kernel)
theorem dX12_list_204 : decode cX12_list 204 = .ok (.aload_n 0, 1) := dk_42 (by decide +kernel)
theorem dX12_list_205 : decode cX12_list 205 = .ok (.iload 4, 2) := dk_21 (by decide +kernel)
theorem dX12_list_207 : decode cX12_list 207 = .ok (.invokevirtual 1034, 3) := dk_182 (by decide +kernel)
theorem dX12_list_210 : decode cX12_list 210 = .ok (.iastore, 1) := dk_79 (by decide +kernel)
theorem dX12_list_211 : decode cX12_list 211 = .ok (.iinc 4 (-1), 3) := dk_132 (by decide +kernel)
theorem dX12_list_214 : decode cX12_list 214 = .ok (.goto (-71), 3) := dk_167 (by decide +kernel)
theorem dX12_list_217 : decode cX12_list 217 = .ok (.goto (-179), 3) := dk_167 (by decide +kernel)
theorem dX12_list_220 : decode cX12_list 220 = .ok (.iload_n 1, 1) := dk_27 (by decide +kernel)
theorem dX12_list_221 : decode cX12_list 221 = .ok (.ireturn, 1) := dk_172 (by decide +kernel)
def wsRX12_list : List Cond := .code yX12_list cX12_list 5 (some .int) :: ([.fieldLink RX12 978 "OptimaWorksModel" "holders" "I", .fieldLink RX12 990 "OptimaWorksModel" "rules" "I", .fieldLink RX12 297 "OptimaWorksModel" "listedRow" "[I", .fieldLink RX12 293 "OptimaWorksModel" "rowValue" "[I"] ++ wsX120 ++ (wsV RX12 1037 RX12 yX12_keepsRule wsRX12_keepsRule) ++ (wsV RX12 1034 RX12 yX12_above wsRX12_above))
theorem iwsRX12_list_in12 : ∀ w ∈ wsX120, w ∈ wsRX12_list := fun _ h => List.mem_cons_of_mem _ (List.mem_append_left _ (List.mem_append_left _ (List.mem_append_right _ h)))
theorem gwsRX12_list_0 : GoodIn wsRX12_list (wsV RX12 1037 RX12 yX12_keepsRule wsRX12_keepsRule) := goodIn_sub (fun _ h => List.mem_cons_of_mem _ (List.mem_append_left _ (List.mem_append_right _ h))) (gdV (by decide +kernel) gdwsRX12_keepsRule)
theorem gwsRX12_list_1 : GoodIn wsRX12_list (wsV RX12 1034 RX12 yX12_above wsRX12_above) := goodIn_sub (fun _ h => List.mem_cons_of_mem _ (List.mem_append_right _ h)) (gdV (by decide +kernel) gdwsRX12_above)
theorem gdwsRX12_list : wsRX12_list.all goodWord = true := gdC rfl (gdA (gdA (gdA (by decide +kernel : ([.fieldLink RX12 978 "OptimaWorksModel" "holders" "I", .fieldLink RX12 990 "OptimaWorksModel" "rules" "I", .fieldLink RX12 297 "OptimaWorksModel" "listedRow" "[I", .fieldLink RX12 293 "OptimaWorksModel" "rowValue" "[I"] : List Cond).all goodWord = true) gdwsX120) (gdV (by decide +kernel) gdwsRX12_keepsRule)) (gdV (by decide +kernel) gdwsRX12_above))
theorem hm_r_X12_list_0 : (.fieldLink RX12 978 "OptimaWorksModel" "holders" "I" : Cond) ∈ wsRX12_list := by decide +kernel
theorem hm_r_X12_list_1 : (.fieldLink RX12 293 "OptimaWorksModel" "rowValue" "[I" : Cond) ∈ wsRX12_list := by decide +kernel
set_option maxHeartbeats 4000000 in
set_option maxRecDepth 100000 in
/-- list() -/
theorem r_X12_list (l : Launch) (dC : Nat → ClassId) (dI : Nat → Nat → Nat) (a : Nat → Nat) (k : Nat → ClassId) (h0 : Nat) (vi : Nat → Int32) (vj : Nat → Int64) (vF : Nat → Nat → Int32) (vG : Nat → Nat → Int64) (hn : Nat) (ru : Nat) (hhn : vi 128 = nI hn) (hhn10 : hn ≤ 10) (hru : vi 129 = nI ru) (hru12 : ru ≤ 12) (hRu : RuO (vF 80) (vF 81) (vF 82) (vF 83) hn ru) (sz : Nat) : Met l yX12_list wsRX12_list ({ frames := 5, cells := 0, slots := 0, locals := 118 }) (va_Pc [.ref h0] (fun U => U.heap.size = sz ∧ va_P (dC, dI) vwCl (WR a k h0 vi vj vF vG) U.heap ∧ va_K (dC, dI) vwCl (tX12 k) U ∧ va_D (fun _ => True) (WR a k h0 vi vj vF vG))) (va_Qi (fun (r : Int32) (u : (Nat) × (Nat → Int32) × (Nat → Int32) × (Nat → Int32) × (Nat → Int32) × (Nat → Int32) × (Nat → Int32)) => r = (nI (u.1)) ∧ ((u.1) ≤ 5000)) (fun (u : (Nat) × (Nat → Int32) × (Nat → Int32) × (Nat → Int32) × (Nat → Int32) × (Nat → Int32) × (Nat → Int32)) t => va_P (dC, dI) vwCl (WR a k h0 vi vj (fT (fT (fT (fT (fT (fT vF 90 (u.2.1)) 91 (u.2.2.1)) 86 (u.2.2.2.1)) 87 (u.2.2.2.2.1)) 88 (u.2.2.2.2.2.1)) 89 (u.2.2.2.2.2.2)) vG) t.heap ∧ va_D (va_A (WR a k h0 vi vj vF vG) sz) (WR a k h0 vi vj (fT (fT (fT (fT (fT (fT vF 90 (u.2.1)) 91 (u.2.2.1)) 86 (u.2.2.2.1)) 87 (u.2.2.2.2.1)) 88 (u.2.2.2.2.2.1)) 89 (u.2.2.2.2.2.2)) vG)) (va_A (WR a k h0 vi vj vF vG) sz)) 0 0 (va_A (WR a k h0 vi vj vF vG) sz) := by
  refine Met.ofW (cc := cX12_list) (maxL := 5) (ret := (some .int)) (by decide) rfl ?_
  intro p e s m args below meth c s₁ B hml hv
  obtain ⟨rfl, hsz, hP, hK, hD0⟩ := hv
  have hx := B.exec
  have hb := B.bytes
  have hr := B.returns
  have hts := atoms_spec (ws := wsRX12_list) B.pre
  have hown : s.vm.findClass RX12 = some m.cls := findClass_of_methodNamed B.named
  have hlocks := B.notSynchronized
  subst hsz
  have hD := hD0.self (sz := s.heap.size)
  generalize hAe : va_A (WR a k h0 vi vj vF vG) s.heap.size = A at hD ⊢
  have hA : ∀ q : Nat, s.heap.size ≤ q → A q := fun q h => by rw [← hAe]; exact Or.inr h
  have hS : va_S A s.heap s.heap [] := va_S.rf
  have hl := lv_entry ([.ref h0]) (n := 5) (Nat.le_of_ble_eq_true rfl)
  rw [lg_entry_eq]
  generalize (lg_sl ([.ref h0]) ++ List.replicate (5 - (lg_sl ([.ref h0])).length) Slot.unset).toArray = ls at hl ⊢
  have hl : lv_has ls 5 [(0, .ref h0)] := hl
  refine lv_iconst (v := 0) hx hb dX12_list_0 (by decide) ?_
  refine lv_istore_n hx hb dX12_list_1 rfl hl (by decide) rfl (fun ls (hl : lv_has ls _ ([(1, .int 0), (0, .ref h0)])) => ?_)
  have e9 : fT vF 90 (vF 90) = vF := by funext q9; by_cases h9_90 : q9 = 90; (subst h9_90; exact (fT_eq _ _ _).trans (Eq.trans (by first | with_reducible rfl | with_reducible assumption | (symm; with_reducible assumption) | rfl | assumption | (symm; assumption) | (subst_vars; rfl)) (Eq.refl _).symm)); exact (fT_ne _ _ h9_90).trans (Eq.refl _).symm
  have hP := wr_PF e9 hP
  have hD := wr_DF e9 hD
  clear e9
  have hl : lv_has _ _ ([(0, .ref h0), (1, .int (nI 0))]) := lv_sub hl [1, 0] rfl
  refine (fun (loop : ∀ (n9 : Nat) (h1 : Nat) (g0 : Nat → Int32) (H : Heap) (locs : List Loc) (ls : Array Slot), (h1 ≤ hn) → (∀ h, h < h1 → -1 ≤ (g0 h).toInt ∧ (g0 h).toInt ≤ 16) →  (hn < h1 + n9) → va_P (dC, dI) vwCl (WR a k h0 vi vj (fT vF 90 g0) vG) H → va_D A (WR a k h0 vi vj (fT vF 90 g0) vG) → va_S A s.heap H locs → lv_has ls 5 [(0, .ref h0), (1, .int (nI h1))] → W p l e _ s m _ below meth c H locs 0 0 _ (F0 m 2 ls [])) => loop (hn + 1) 0 (vF 90) _ _ _ (by omega) (fun h hh => absurd hh (by omega)) (by omega) hP hD hS hl) ?_
  intro n9
  induction n9 with
  | zero => intro h1 g0 H locs ls hh1 hz hf9; exact False.elim (by omega)
  | succ n9 ih2 =>
    intro h1 g0 H locs ls hh1 hz hf2 hP hD hS hl
    refine lv_iload_n hx hb dX12_list_2 rfl (lv_at hl 1 rfl) ?_
    refine lv_aload_n hx hb dX12_list_3 rfl (lv_at hl 0 rfl) ?_
    refine va_get (D := (dC, dI)) (ci := 12) (v := .int (vi 128)) (C := RX12) (T := TX12) (N := 163) (fs := fM (vS a vi vj)) hx hb hts iwsRX12_list_in12 hown hK hP 0 rfl rfl 128 (by decide) (hts _ hm_r_X12_list_0) (fun _ h9 => h9) rfl dX12_list_4 ?_
    refine lv_topi (fun y1 hy1 => ?_)
    obtain rfl : (nI hn) = y1 := (hy1.trans (hhn)).symm
    refine lv_icmp_ge (tgt := 34) hx hb dX12_list_7 (by decide) (fun c_7 => ?_) (fun c_7 => ?_)
    · have t_7 : ((h1 : Nat) : Int) ≥ ((hn : Nat) : Int) := toI_ge c_7 (nI_toInt (by omega)) (nI_toInt (by omega))
      refine lv_iconst (v := 0) hx hb dX12_list_34 (by decide) ?_
      refine lv_istore_n hx hb dX12_list_35 rfl hl (by decide) rfl (fun ls (hl : lv_has ls _ ([(1, .int 0), (0, .ref h0)])) => ?_)
      refine lv_iconst (v := 1) hx hb dX12_list_36 (by decide) ?_
      refine lv_istore_n hx hb dX12_list_37 rfl hl (by decide) rfl (fun ls (hl : lv_has ls _ ([(2, .int 1), (1, .int 0), (0, .ref h0)])) => ?_)
      have e9 : fT (fT (fT (fT (fT (fT vF 90 g0) 91 (vF 91)) 86 (vF 86)) 87 (vF 87)) 88 (vF 88)) 89 (vF 89) = fT vF 90 g0 := Eq.trans (mv_4 rfl) (Eq.trans (id_5 rfl) (Eq.trans (mv_3 rfl) (Eq.trans (id_4 rfl) (Eq.trans (mv_2 rfl) (Eq.trans (id_3 rfl) (Eq.trans (mv_1 rfl) (Eq.trans (id_2 rfl) (id_1 rfl))))))))
      have hP := wr_PF e9 hP
      have hD := wr_DF e9 hD
      clear e9
      have hl : lv_has _ _ ([(0, .ref h0), (1, .int (nI 0)), (2, .int 1)]) := lv_sub hl [2, 1, 0] rfl
      refine (fun (loop : ∀ (n9 : Nat) (mo : Int32) (n5 : Nat) (rv : Nat → Int32) (x14_F91 : Nat → Int32) (x14_F86 : Nat → Int32) (x14_F87 : Nat → Int32) (x14_F88 : Nat → Int32) (x14_F89 : Nat → Int32) (H : Heap) (locs : List Loc) (ls : Array Slot), (RvO rv hn) → (n5 ≤ 5000) →  ((mo = 0 ∧ 0 < n9) ∨ odoP (fun _ => 18) hn < odo (dgR rv) (fun _ => 18) hn + n9) → va_P (dC, dI) vwCl (WR a k h0 vi vj (fT (fT (fT (fT (fT (fT vF 90 rv) 91 x14_F91) 86 x14_F86) 87 x14_F87) 88 x14_F88) 89 x14_F89) vG) H → va_D A (WR a k h0 vi vj (fT (fT (fT (fT (fT (fT vF 90 rv) 91 x14_F91) 86 x14_F86) 87 x14_F87) 88 x14_F88) 89 x14_F89) vG) → va_S A s.heap H locs → lv_has ls 5 [(0, .ref h0), (1, .int (nI n5)), (2, .int mo)] → W p l e _ s m _ below meth c H locs 0 0 _ (F0 m 38 ls [])) => loop (odoP (fun _ => 18) hn + 1) 1 0 g0 (vF 91) (vF 86) (vF 87) (vF 88) (vF 89) _ _ _ (fun h hh => hz h (by omega)) (by omega) (Or.inr (by omega)) hP hD hS hl) ?_
      intro n9
      induction n9 with
      | zero => intro mo n5 rv x14_F91 x14_F86 x14_F87 x14_F88 x14_F89 H locs ls hRv hn5 hf9; exact False.elim (by (have h9 := odo_lt (f := dgR rv) (b := fun _ => 18) hn (fun q hq => hRv.dg hq)); omega)
      | succ n9 ih38_1 =>
        intro mo n5 rv x14_F91 x14_F86 x14_F87 x14_F88 x14_F89 H locs ls hRv hn5 hf38_1 hP hD hS hl
        have hfx := hf38_1
        refine lv_iload_n hx hb dX12_list_38 rfl (lv_at hl 2 rfl) ?_
        refine lv_if_eq (tgt := 220) hx hb dX12_list_39 (by decide) (fun c_39 => ?_) (fun c_39 => ?_)
        · have t_39 : (mo).toInt = 0 := toI_eq c_39 rfl (by decide)
          refine lv_iload_n hx hb dX12_list_220 rfl (lv_at hl 1 rfl) ?_
          refine W.widen (k := 0) (n := 0) (by decide +kernel) (by decide +kernel) ?_
          exact W.iret (v := (nI n5)) hx hb hr (fun t9_ ht hW => ⟨⟨(nI n5), (n5, rv, x14_F91, x14_F86, x14_F87, x14_F88, x14_F89), rfl, by (try dsimp only); exact ⟨rfl, hn5⟩, by rw [ht]; exact hP, hD⟩, hS.F ht⟩) hS.2.2 dX12_list_221
        · have t_39 : ¬ (mo).toInt = 0 := toI_neq c_39 rfl (by decide)
          refine lv_iload_n hx hb dX12_list_42 rfl (lv_at hl 1 rfl) ?_
          refine lv_sipush (v := 5000) hx hb dX12_list_43 (by decide) ?_
          refine lv_icmp_ge (tgt := 220) hx hb dX12_list_46 (by decide) (fun c_46 => ?_) (fun c_46 => ?_)
          · have t_46 : ((n5 : Nat) : Int) ≥ 5000 := toI_ge c_46 (nI_toInt (by omega)) (by decide)
            refine lv_iload_n hx hb dX12_list_220 rfl (lv_at hl 1 rfl) ?_
            refine W.widen (k := 0) (n := 0) (by decide +kernel) (by decide +kernel) ?_
            exact W.iret (v := (nI n5)) hx hb hr (fun t9_ ht hW => ⟨⟨(nI n5), (n5, rv, x14_F91, x14_F86, x14_F87, x14_F88, x14_F89), rfl, by (try dsimp only); exact ⟨rfl, hn5⟩, by rw [ht]; exact hP, hD⟩, hS.F ht⟩) hS.2.2 dX12_list_221
          · have t_46 : ¬ ((n5 : Nat) : Int) ≥ 5000 := toI_nge c_46 (nI_toInt (by omega)) (by decide)
            refine lv_iconst (v := 1) hx hb dX12_list_49 (by decide) ?_
            refine lv_istore_n hx hb dX12_list_50 rfl hl (by decide) rfl (fun ls (hl : lv_has ls _ ([(3, .int 1), (0, .ref h0), (1, .int (nI n5)), (2, .int mo)])) => ?_)
            refine lv_iconst (v := 0) hx hb dX12_list_51 (by decide) ?_
            refine lv_istore hx hb dX12_list_52 hl (by decide) rfl (fun ls (hl : lv_has ls _ ([(4, .int 0), (3, .int 1), (0, .ref h0), (1, .int (nI n5)), (2, .int mo)])) => ?_)
            have hl : lv_has _ _ ([(0, .ref h0), (1, .int (nI n5)), (3, .int 1), (4, .int (nI 0))]) := lv_sub hl [2, 3, 1, 0] rfl
            refine (fun (loop : ∀ (n9 : Nat) (r5 : Nat) (iq : Int32) (x21_F86 : Nat → Int32) (x21_F87 : Nat → Int32) (x21_F88 : Nat → Int32) (x21_F89 : Nat → Int32) (H : Heap) (locs : List Loc) (ls : Array Slot), (r5 ≤ ru) →  (ru < r5 + n9) → va_P (dC, dI) vwCl (WR a k h0 vi vj (fT (fT (fT (fT (fT (fT vF 90 rv) 91 x14_F91) 86 x21_F86) 87 x21_F87) 88 x21_F88) 89 x21_F89) vG) H → va_D A (WR a k h0 vi vj (fT (fT (fT (fT (fT (fT vF 90 rv) 91 x14_F91) 86 x21_F86) 87 x21_F87) 88 x21_F88) 89 x21_F89) vG) → va_S A s.heap H locs → lv_has ls 5 [(0, .ref h0), (1, .int (nI n5)), (3, .int iq), (4, .int (nI r5))] → W p l e _ s m _ below meth c H locs 0 0 _ (F0 m 54 ls [])) => loop (ru + 1) 0 1 x14_F86 x14_F87 x14_F88 x14_F89 _ _ _ (by omega) (by omega) hP hD hS hl) ?_
            intro n9
            induction n9 with
            | zero => intro r5 iq x21_F86 x21_F87 x21_F88 x21_F89 H locs ls hr5 hf9; exact False.elim (by omega)
            | succ n9 ih54_2 =>
              intro r5 iq x21_F86 x21_F87 x21_F88 x21_F89 H locs ls hr5 hf54_2 hP hD hS hl
              refine lv_iload hx hb dX12_list_54 (lv_at hl 3 rfl) ?_
              refine lv_aload_n hx hb dX12_list_56 rfl (lv_at hl 0 rfl) ?_
              refine va_get (D := (dC, dI)) (ci := 12) (v := .int (vi 129)) (C := RX12) (T := TX12) (N := 163) (fs := fM (vS a vi vj)) hx hb hts iwsRX12_list_in12 hown hK hP 0 rfl rfl 129 (by decide) (hts (.fieldLink RX12 990 "OptimaWorksModel" "rules" "I") (by decide +kernel)) (fun _ h9 => h9) rfl dX12_list_57 ?_
              refine lv_topi (fun y2 hy2 => ?_)
              obtain rfl : (nI ru) = y2 := (hy2.trans (hru)).symm
              refine W.cut (pc := 80) (fun H locs ls stk =>  stk = [] ∧ va_P (dC, dI) vwCl (WR a k h0 vi vj (fT (fT (fT (fT (fT (fT vF 90 rv) 91 x14_F91) 86 x21_F86) 87 x21_F87) 88 x21_F88) 89 x21_F89) vG) H ∧ va_D A (WR a k h0 vi vj (fT (fT (fT (fT (fT (fT vF 90 rv) 91 x14_F91) 86 x21_F86) 87 x21_F87) 88 x21_F88) 89 x21_F89) vG) ∧ va_S A s.heap H locs ∧ lv_has ls 5 [(0, .ref h0), (1, .int (nI n5)), (3, .int iq), (4, .int (nI r5))]) (fun join1 => ?_) ?_
              · refine lv_icmp_ge (tgt := 80) hx hb dX12_list_60 (by decide) (fun c_60 => ?_) (fun c_60 => ?_)
                · have t_60 : ((r5 : Nat) : Int) ≥ ((ru : Nat) : Int) := toI_ge c_60 (nI_toInt (by omega)) (nI_toInt (by omega))
                  have hl : lv_has _ _ ([(0, .ref h0), (1, .int (nI n5)), (3, .int iq), (4, .int (nI r5))]) := lv_sub hl [0, 1, 2, 3] rfl
                  exact join1 _ _ _ _ ⟨rfl, hP, hD, hS, hl⟩
                · have t_60 : ¬ ((r5 : Nat) : Int) ≥ ((ru : Nat) : Int) := toI_nge c_60 (nI_toInt (by omega)) (nI_toInt (by omega))
                  refine lv_iload_n hx hb dX12_list_63 rfl (lv_at hl 2 rfl) ?_
                  refine lv_if_eq (tgt := 80) hx hb dX12_list_64 (by decide) (fun c_64 => ?_) (fun c_64 => ?_)
                  · have t_64 : (iq).toInt = 0 := toI_eq c_64 rfl (by decide)
                    have hl : lv_has _ _ ([(0, .ref h0), (1, .int (nI n5)), (3, .int iq), (4, .int (nI r5))]) := lv_sub hl [0, 1, 2, 3] rfl
                    exact join1 _ _ _ _ ⟨rfl, hP, hD, hS, hl⟩
                  · have t_64 : ¬ (iq).toInt = 0 := toI_neq c_64 rfl (by decide)
                    refine lv_aload_n hx hb dX12_list_67 rfl (lv_at hl 0 rfl) ?_
                    refine lv_iload hx hb dX12_list_68 (lv_at hl 3 rfl) ?_
                    have hFc := allFree hD hS hA
                    refine va_calli (va_runV (As := [.int (nI r5)]) (rest := []) ⟨hx, hb, hml, hown, hts⟩ (r_X12_keepsRule l dC dI a k h0 vi vj (fT (fT (fT (fT (fT (fT vF 90 rv) 91 x14_F91) 86 x21_F86) 87 x21_F87) 88 x21_F88) 89 x21_F89) vG r5 hn (by first | with_reducible assumption | decide | omega | rfl | assumption) hhn (by first | with_reducible assumption | decide | omega | rfl | assumption) (hRu r5 (by omega)) H.size) (cwV 1 hts gwsRX12_list_0 rfl rfl rfl hd_yX12_keepsRule_RX12 (by decide +kernel)) (fz_pre (va_recv hK hP (ci := 12) (q0 := 0) rfl rfl) hP hK hD) rfl rfl hl.1 rfl (lv_room (Nat.le_of_ble_eq_true rfl)) dX12_list_70 (by decide +kernel)) hS (fun q _ h => hFc q h) hFc (fun r70 u t9_ H locs ht hvm hw9 hB9 hz1 hk1 hS => ?_)
                    revert u hw9 hB9
                    refine fz_p4 ?_
                    intro g8670 g8770 g8870 g8970 hw9 hB9
                    try dsimp only at hw9 hB9
                    have e9F : fT (fT (fT (fT (fT (fT vF 90 rv) 91 x14_F91) 86 g8670) 87 g8770) 88 g8870) 89 g8970 = fT (fT (fT (fT (fT (fT (fT (fT (fT (fT vF 90 rv) 91 x14_F91) 86 x21_F86) 87 x21_F87) 88 x21_F88) 89 x21_F89) 86 g8670) 87 g8770) 88 g8870) 89 g8970 := Eq.symm (Eq.trans (congrArg (fun g9 => fT g9 89 g8970) (Eq.trans (congrArg (fun g9 => fT g9 88 g8870) (Eq.trans (congrArg (fun g9 => fT g9 87 g8770) (up_3 rfl)) (up_2 rfl))) (up_1 rfl))) (up_0 rfl))
                    have hP := wr_PF e9F (fz_P ht hB9.1)
                    have hD := wr_DF e9F (hB9.2.weaken (fun _ q _ h => hFc q.1 h))
                    clear e9F
                    rcases hw9 with rfl | rfl
                    · refine lv_istore_n hx hb dX12_list_73 rfl hl (by decide) rfl (fun ls (hl : lv_has ls _ ([(3, .int 1), (0, .ref h0), (1, .int (nI n5)), (4, .int (nI r5))])) => ?_)
                      refine lv_iinc (v := (nI (r5 + 1))) hx hb dX12_list_74 hl (k := 3) rfl (nI_add r5 1) (by decide) rfl (fun ls (hl : lv_has ls _ ([(4, .int (nI (r5 + 1))), (3, .int 1), (0, .ref h0), (1, .int (nI n5))])) => ?_)
                      refine lv_goto (tgt := 54) hx hb dX12_list_77 (by decide) ?_
                      have hl : lv_has _ _ ([(0, .ref h0), (1, .int (nI n5)), (3, .int 1), (4, .int (nI (r5 + 1)))]) := lv_sub hl [2, 3, 1, 0] rfl
                      exact ih54_2 (r5 + 1) 1 g8670 g8770 g8870 g8970 _ _ _ (by omega) (by omega) hP hD hS hl
                    · refine lv_istore_n hx hb dX12_list_73 rfl hl (by decide) rfl (fun ls (hl : lv_has ls _ ([(3, .int 0), (0, .ref h0), (1, .int (nI n5)), (4, .int (nI r5))])) => ?_)
                      refine lv_iinc (v := (nI (r5 + 1))) hx hb dX12_list_74 hl (k := 3) rfl (nI_add r5 1) (by decide) rfl (fun ls (hl : lv_has ls _ ([(4, .int (nI (r5 + 1))), (3, .int 0), (0, .ref h0), (1, .int (nI n5))])) => ?_)
                      refine lv_goto (tgt := 54) hx hb dX12_list_77 (by decide) ?_
                      have hl : lv_has _ _ ([(0, .ref h0), (1, .int (nI n5)), (3, .int 0), (4, .int (nI (r5 + 1)))]) := lv_sub hl [2, 3, 1, 0] rfl
                      exact ih54_2 (r5 + 1) 0 g8670 g8770 g8870 g8970 _ _ _ (by omega) (by omega) hP hD hS hl
              · rintro H locs ls stk ⟨rfl, hP, hD, hS, hl⟩
                refine lv_iconst (v := 0) hx hb dX12_list_80 (by decide) ?_
                refine lv_istore hx hb dX12_list_81 hl (by decide) rfl (fun ls (hl : lv_has ls _ ([(4, .int 0), (0, .ref h0), (1, .int (nI n5)), (3, .int iq)])) => ?_)
                have hl : lv_has _ _ ([(0, .ref h0), (1, .int (nI n5)), (3, .int iq), (4, .int (nI 0))]) := lv_sub hl [1, 2, 3, 0] rfl
                refine (fun (loop : ∀ (n9 : Nat) (h5 : Nat) (x25_F91 : Nat → Int32) (H : Heap) (locs : List Loc) (ls : Array Slot), (h5 ≤ hn) →  (hn < h5 + n9) → va_P (dC, dI) vwCl (WR a k h0 vi vj (fT (fT (fT (fT (fT (fT vF 90 rv) 91 x25_F91) 86 x21_F86) 87 x21_F87) 88 x21_F88) 89 x21_F89) vG) H → va_D A (WR a k h0 vi vj (fT (fT (fT (fT (fT (fT vF 90 rv) 91 x25_F91) 86 x21_F86) 87 x21_F87) 88 x21_F88) 89 x21_F89) vG) → va_S A s.heap H locs → lv_has ls 5 [(0, .ref h0), (1, .int (nI n5)), (3, .int iq), (4, .int (nI h5))] → W p l e _ s m _ below meth c H locs 0 0 _ (F0 m 83 ls [])) => loop (hn + 1) 0 x14_F91 _ _ _ (by omega) (by omega) hP hD hS hl) ?_
                intro n9
                induction n9 with
                | zero => intro h5 x25_F91 H locs ls hh5 hf9; exact False.elim (by omega)
                | succ n9 ih83_3 =>
                  intro h5 x25_F91 H locs ls hh5 hf83_3 hP hD hS hl
                  refine lv_iload hx hb dX12_list_83 (lv_at hl 3 rfl) ?_
                  refine lv_aload_n hx hb dX12_list_85 rfl (lv_at hl 0 rfl) ?_
                  refine va_get (D := (dC, dI)) (ci := 12) (v := .int (vi 128)) (C := RX12) (T := TX12) (N := 163) (fs := fM (vS a vi vj)) hx hb hts iwsRX12_list_in12 hown hK hP 0 rfl rfl 128 (by decide) (hts _ hm_r_X12_list_0) (fun _ h9 => h9) rfl dX12_list_86 ?_
                  refine lv_topi (fun y3 hy3 => ?_)
                  obtain rfl : (nI hn) = y3 := (hy3.trans (hhn)).symm
                  refine W.cut (pc := 121) (fun H locs ls stk =>  stk = [] ∧ va_P (dC, dI) vwCl (WR a k h0 vi vj (fT (fT (fT (fT (fT (fT vF 90 rv) 91 x25_F91) 86 x21_F86) 87 x21_F87) 88 x21_F88) 89 x21_F89) vG) H ∧ va_D A (WR a k h0 vi vj (fT (fT (fT (fT (fT (fT vF 90 rv) 91 x25_F91) 86 x21_F86) 87 x21_F87) 88 x21_F88) 89 x21_F89) vG) ∧ va_S A s.heap H locs ∧ lv_has ls 5 [(0, .ref h0), (1, .int (nI n5)), (3, .int iq), (4, .int (nI h5))]) (fun join2 => ?_) ?_
                  · refine lv_icmp_ge (tgt := 121) hx hb dX12_list_89 (by decide) (fun c_89 => ?_) (fun c_89 => ?_)
                    · have t_89 : ((h5 : Nat) : Int) ≥ ((hn : Nat) : Int) := toI_ge c_89 (nI_toInt (by omega)) (nI_toInt (by omega))
                      have hl : lv_has _ _ ([(0, .ref h0), (1, .int (nI n5)), (3, .int iq), (4, .int (nI h5))]) := lv_sub hl [0, 1, 2, 3] rfl
                      exact join2 _ _ _ _ ⟨rfl, hP, hD, hS, hl⟩
                    · have t_89 : ¬ ((h5 : Nat) : Int) ≥ ((hn : Nat) : Int) := toI_nge c_89 (nI_toInt (by omega)) (nI_toInt (by omega))
                      refine lv_iload_n hx hb dX12_list_92 rfl (lv_at hl 2 rfl) ?_
                      refine lv_if_eq (tgt := 121) hx hb dX12_list_93 (by decide) (fun c_93 => ?_) (fun c_93 => ?_)
                      · have t_93 : (iq).toInt = 0 := toI_eq c_93 rfl (by decide)
                        have hl : lv_has _ _ ([(0, .ref h0), (1, .int (nI n5)), (3, .int iq), (4, .int (nI h5))]) := lv_sub hl [0, 1, 2, 3] rfl
                        exact join2 _ _ _ _ ⟨rfl, hP, hD, hS, hl⟩
                      · have t_93 : ¬ (iq).toInt = 0 := toI_neq c_93 rfl (by decide)
                        refine lv_aload_n hx hb dX12_list_96 rfl (lv_at hl 0 rfl) ?_
                        refine va_get (D := (dC, dI)) (ci := 12) (v := .ref (a 91)) (C := RX12) (T := TX12) (N := 163) (fs := fM (vS a vi vj)) hx hb hts iwsRX12_list_in12 hown hK hP 0 rfl rfl 144 (by decide) (hts (.fieldLink RX12 297 "OptimaWorksModel" "listedRow" "[I") (by decide +kernel)) (fun _ h9 => h9) rfl dX12_list_97 ?_
                        refine lv_bipush (v := 10) hx hb dX12_list_100 (by decide) ?_
                        refine lv_iload_n hx hb dX12_list_102 rfl (lv_at hl 1 rfl) ?_
                        refine lv_imul hx hb dX12_list_103 ?_
                        refine lv_topi (fun y4 hy4 => ?_)
                        obtain rfl : (nI (10 * n5)) = y4 := (hy4.trans (pk_mul 10 n5)).symm
                        refine lv_iload hx hb dX12_list_104 (lv_at hl 3 rfl) ?_
                        refine lv_iadd hx hb dX12_list_106 ?_
                        refine lv_topi (fun y5 hy5 => ?_)
                        obtain rfl : (nI ((10 * n5) + h5)) = y5 := (hy5.trans (nI_add (10 * n5) h5)).symm
                        refine lv_aload_n hx hb dX12_list_107 rfl (lv_at hl 0 rfl) ?_
                        refine va_get (D := (dC, dI)) (ci := 12) (v := .ref (a 90)) (C := RX12) (T := TX12) (N := 163) (fs := fM (vS a vi vj)) hx hb hts iwsRX12_list_in12 hown hK hP 0 rfl rfl 143 (by decide) (hts _ hm_r_X12_list_1) (fun _ h9 => h9) rfl dX12_list_108 ?_
                        refine lv_iload hx hb dX12_list_111 (lv_at hl 3 rfl) ?_
                        refine va_iald (cA := k 90) (n := 10) (f := rv) hx hb hK hP 91 90 (WR_get 90 (by decide)) (TR_get 90 (by decide)) (vp_in_nI (show h5 < 10 by omega) (by omega)) dX12_list_113 ?_
                        refine lv_topi (fun y6 hy6 => ?_)
                        obtain rfl : (rv h5) = y6 := (hy6.trans (by rw [nI_clamp (by omega)])).symm
                        refine va_iast (cA := k 91) (n := 50000) (f := x25_F91) hx hb hK hP hD hS 92 91 (WR_get 91 (by decide)) (TR_get 91 (by decide)) (vp_in_nI (show ((10 * n5) + h5) < 50000 by omega) (by omega)) dX12_list_114 (fun H locs hP hD hS => ?_)
                        have e9 : fT (fT (fT (fT (fT (fT vF 90 rv) 91 (upd x25_F91 ((nI ((10 * n5) + h5))).toNatClampNeg (rv h5))) 86 x21_F86) 87 x21_F87) 88 x21_F88) 89 x21_F89 = fT (fT (fT (fT (fT (fT (fT vF 90 rv) 91 x25_F91) 86 x21_F86) 87 x21_F87) 88 x21_F88) 89 x21_F89) 91 (upd x25_F91 ((nI ((10 * n5) + h5))).toNatClampNeg (rv h5)) := ((fT_sw _ _ _ (Nat.ne_of_beq_eq_false rfl)).trans (congrArg (fun g9 => fT g9 89 x21_F89) ((fT_sw _ _ _ (Nat.ne_of_beq_eq_false rfl)).trans (congrArg (fun g9 => fT g9 88 x21_F88) ((fT_sw _ _ _ (Nat.ne_of_beq_eq_false rfl)).trans (congrArg (fun g9 => fT g9 87 x21_F87) ((fT_sw _ _ _ (Nat.ne_of_beq_eq_false rfl)).trans (congrArg (fun g9 => fT g9 86 x21_F86) (fT_sm _ _ _ _))))))))).symm
                        have hP := wr_PF e9 (fz_w (WR_F 91 (by decide) _ rfl) hP)
                        have hD := wr_DF e9 (fz_wD (WR_F 91 (by decide) _ rfl) hD)
                        clear e9
                        refine lv_iinc (v := (nI (h5 + 1))) hx hb dX12_list_115 hl (k := 3) rfl (nI_add h5 1) (by decide) rfl (fun ls (hl : lv_has ls _ ([(4, .int (nI (h5 + 1))), (0, .ref h0), (1, .int (nI n5)), (3, .int iq)])) => ?_)
                        refine lv_goto (tgt := 83) hx hb dX12_list_118 (by decide) ?_
                        have hl : lv_has _ _ ([(0, .ref h0), (1, .int (nI n5)), (3, .int iq), (4, .int (nI (h5 + 1)))]) := lv_sub hl [1, 2, 3, 0] rfl
                        exact ih83_3 (h5 + 1) (upd x25_F91 ((nI ((10 * n5) + h5))).toNatClampNeg (rv h5)) _ _ _ (by omega) (by omega) hP hD hS hl
                  · rintro H locs ls stk ⟨rfl, hP, hD, hS, hl⟩
                    refine lv_iload_n hx hb dX12_list_121 rfl (lv_at hl 1 rfl) ?_
                    refine lv_iload_n hx hb dX12_list_122 rfl (lv_at hl 2 rfl) ?_
                    refine W.cut (pc := 131) (fun H locs ls stk => ∃ (b9 : Nat), (b9 ≤ 1) ∧  stk = [.int (nI b9), .int (nI n5)] ∧ va_P (dC, dI) vwCl (WR a k h0 vi vj (fT (fT (fT (fT (fT (fT vF 90 rv) 91 x25_F91) 86 x21_F86) 87 x21_F87) 88 x21_F88) 89 x21_F89) vG) H ∧ va_D A (WR a k h0 vi vj (fT (fT (fT (fT (fT (fT vF 90 rv) 91 x25_F91) 86 x21_F86) 87 x21_F87) 88 x21_F88) 89 x21_F89) vG) ∧ va_S A s.heap H locs ∧ lv_has ls 5 [(0, .ref h0), (1, .int (nI n5)), (3, .int iq), (4, .int (nI h5))]) (fun join3 => ?_) ?_
                    · refine lv_if_eq (tgt := 130) hx hb dX12_list_123 (by decide) (fun c_123 => ?_) (fun c_123 => ?_)
                      · have t_123 : (iq).toInt = 0 := toI_eq c_123 rfl (by decide)
                        refine lv_iconst (v := 0) hx hb dX12_list_130 (by decide) ?_
                        have hl : lv_has _ _ ([(0, .ref h0), (1, .int (nI n5)), (3, .int iq), (4, .int (nI h5))]) := lv_sub hl [0, 1, 2, 3] rfl
                        exact join3 _ _ _ _ ⟨0, by omega, rfl, hP, hD, hS, hl⟩
                      · have t_123 : ¬ (iq).toInt = 0 := toI_neq c_123 rfl (by decide)
                        refine lv_iconst (v := 1) hx hb dX12_list_126 (by decide) ?_
                        refine lv_goto (tgt := 131) hx hb dX12_list_127 (by decide) ?_
                        have hl : lv_has _ _ ([(0, .ref h0), (1, .int (nI n5)), (3, .int iq), (4, .int (nI h5))]) := lv_sub hl [0, 1, 2, 3] rfl
                        exact join3 _ _ _ _ ⟨1, by omega, rfl, hP, hD, hS, hl⟩
                    · rintro H locs ls stk ⟨b9, hb9, rfl, hP, hD, hS, hl⟩
                      refine lv_iadd hx hb dX12_list_131 ?_
                      refine lv_topi (fun y7 hy7 => ?_)
                      obtain rfl : (nI (n5 + b9)) = y7 := (hy7.trans (nI_add n5 b9)).symm
                      refine lv_istore_n hx hb dX12_list_132 rfl hl (by decide) rfl (fun ls (hl : lv_has ls _ ([(1, .int (nI (n5 + b9))), (0, .ref h0), (3, .int iq), (4, .int (nI h5))])) => ?_)
                      refine lv_iconst (v := 0) hx hb dX12_list_133 (by decide) ?_
                      refine lv_istore_n hx hb dX12_list_134 rfl hl (by decide) rfl (fun ls (hl : lv_has ls _ ([(2, .int 0), (1, .int (nI (n5 + b9))), (0, .ref h0), (3, .int iq), (4, .int (nI h5))])) => ?_)
                      refine lv_aload_n hx hb dX12_list_135 rfl (lv_at hl 2 rfl) ?_
                      refine va_get (D := (dC, dI)) (ci := 12) (v := .int (vi 128)) (C := RX12) (T := TX12) (N := 163) (fs := fM (vS a vi vj)) hx hb hts iwsRX12_list_in12 hown hK hP 0 rfl rfl 128 (by decide) (hts _ hm_r_X12_list_0) (fun _ h9 => h9) rfl dX12_list_136 ?_
                      refine lv_topi (fun y8 hy8 => ?_)
                      obtain rfl : (nI hn) = y8 := (hy8.trans (hhn)).symm
                      refine lv_iconst (v := 1) hx hb dX12_list_139 (by decide) ?_
                      refine lv_isub hx hb dX12_list_140 ?_
                      refine lv_istore hx hb dX12_list_141 hl (by decide) rfl (fun ls (hl : lv_has ls _ ([(4, .int ((nI hn) - 1)), (2, .int 0), (1, .int (nI (n5 + b9))), (0, .ref h0), (3, .int iq)])) => ?_)
                      have hl : lv_has _ _ ([(0, .ref h0), (1, .int (nI (n5 + b9))), (2, .int 0), (4, .int ((nI hn) - 1))]) := lv_sub hl [3, 2, 1, 0] rfl
                      refine (fun (loop : ∀ (n9 : Nat) (mo2 : Int32) (kq : Int32) (kk1 : Nat) (rv2 : Nat → Int32) (H : Heap) (locs : List Loc) (ls : Array Slot), ((kq).toInt = (kk1 : Int) - 1) → (kk1 ≤ hn) → (∀ q, q < kk1 → rv2 q = rv q) → (RvO rv2 hn) → (mo2 = 0 ∨ odo (dgR rv) (fun _ => 18) hn < odo (dgR rv2) (fun _ => 18) hn) →  (kk1 < n9) → va_P (dC, dI) vwCl (WR a k h0 vi vj (fT (fT (fT (fT (fT (fT vF 90 rv2) 91 x25_F91) 86 x21_F86) 87 x21_F87) 88 x21_F88) 89 x21_F89) vG) H → va_D A (WR a k h0 vi vj (fT (fT (fT (fT (fT (fT vF 90 rv2) 91 x25_F91) 86 x21_F86) 87 x21_F87) 88 x21_F88) 89 x21_F89) vG) → va_S A s.heap H locs → lv_has ls 5 [(0, .ref h0), (1, .int (nI (n5 + b9))), (2, .int mo2), (4, .int kq)] → W p l e _ s m _ below meth c H locs 0 0 _ (F0 m 143 ls [])) => loop (hn + 1) 0 ((nI hn) - 1) hn rv _ _ _ (by exact pk_sub_toInt (a := hn) (b := 1) (by omega) (by omega)) (by omega) (fun q _ => rfl) (hRv) (Or.inl rfl) (by omega) hP hD hS hl) ?_
                      intro n9
                      induction n9 with
                      | zero => intro mo2 kq kk1 rv2 H locs ls hkq hkn hpre hRv2 hmo hf9; exact False.elim (by omega)
                      | succ n9 ih143_4 =>
                        intro mo2 kq kk1 rv2 H locs ls hkq hkn hpre hRv2 hmo hf143_4 hP hD hS hl
                        refine lv_iload hx hb dX12_list_143 (lv_at hl 3 rfl) ?_
                        refine lv_if_lt (tgt := 217) hx hb dX12_list_145 (by decide) (fun c_145 => ?_) (fun c_145 => ?_)
                        · have t_145 : (kq).toInt < 0 := toI_lt c_145 rfl (by decide)
                          refine lv_goto (tgt := 38) hx hb dX12_list_217 (by decide) ?_
                          have hl : lv_has _ _ ([(0, .ref h0), (1, .int (nI (n5 + b9))), (2, .int mo2)]) := lv_sub hl [0, 1, 2] rfl
                          exact ih38_1 mo2 (n5 + b9) rv2 x25_F91 x21_F86 x21_F87 x21_F88 x21_F89 _ _ _ (hRv2) (by omega) (by (have h8 := odo_lt (f := dgR rv) (b := fun _ => 18) hn (fun q hq => hRv.dg hq)); (have h9 := hfx.resolve_left (fun h => c_39 h.1)); rcases hmo with h7 | h7; (exact Or.inl ⟨h7, by omega⟩); (exact Or.inr (by omega))) hP hD hS hl
                        · have t_145 : ¬ (kq).toInt < 0 := toI_nlt c_145 rfl (by decide)
                          refine lv_iload_n hx hb dX12_list_148 rfl (lv_at hl 2 rfl) ?_
                          refine lv_if_ne (tgt := 217) hx hb dX12_list_149 (by decide) (fun c_149 => ?_) (fun c_149 => ?_)
                          · have t_149 : (mo2).toInt ≠ 0 := toI_ne c_149 rfl (by decide)
                            refine lv_goto (tgt := 38) hx hb dX12_list_217 (by decide) ?_
                            have hl : lv_has _ _ ([(0, .ref h0), (1, .int (nI (n5 + b9))), (2, .int mo2)]) := lv_sub hl [0, 1, 2] rfl
                            exact ih38_1 mo2 (n5 + b9) rv2 x25_F91 x21_F86 x21_F87 x21_F88 x21_F89 _ _ _ (hRv2) (by omega) (by (have h8 := odo_lt (f := dgR rv) (b := fun _ => 18) hn (fun q hq => hRv.dg hq)); (have h9 := hfx.resolve_left (fun h => c_39 h.1)); rcases hmo with h7 | h7; (exact Or.inl ⟨h7, by omega⟩); (exact Or.inr (by omega))) hP hD hS hl
                          · have t_149 : (mo2).toInt = 0 := toI_nne c_149 rfl (by decide)
                            obtain ⟨kk, h_kk, rfl⟩ := of_toInt (x := kq) (k := 10) (by omega) (by omega)
                            have e_kk : (nI kk).toInt = (kk : Int) := nI_toInt (by omega)
                            refine lv_aload_n hx hb dX12_list_152 rfl (lv_at hl 0 rfl) ?_
                            refine va_get (D := (dC, dI)) (ci := 12) (v := .ref (a 90)) (C := RX12) (T := TX12) (N := 163) (fs := fM (vS a vi vj)) hx hb hts iwsRX12_list_in12 hown hK hP 0 rfl rfl 143 (by decide) (hts _ hm_r_X12_list_1) (fun _ h9 => h9) rfl dX12_list_153 ?_
                            refine lv_iload hx hb dX12_list_156 (lv_at hl 3 rfl) ?_
                            refine lv_aload_n hx hb dX12_list_158 rfl (lv_at hl 0 rfl) ?_
                            refine lv_iload hx hb dX12_list_159 (lv_at hl 3 rfl) ?_
                            have hFc := allFree hD hS hA
                            refine va_calli (va_runV (As := [.int (nI kk)]) (rest := [.int (nI kk), .ref (a 90)]) ⟨hx, hb, hml, hown, hts⟩ (r_X12_above l dC dI a k h0 vi vj (fT (fT (fT (fT (fT (fT vF 90 rv2) 91 x25_F91) 86 x21_F86) 87 x21_F87) 88 x21_F88) 89 x21_F89) vG kk (by first | with_reducible assumption | decide | omega | rfl | assumption) (hRv2 kk (by omega)) H.size) (cwV 1 hts gwsRX12_list_1 rfl rfl rfl hd_yX12_above_RX12 (by decide +kernel)) (fz_pre (va_recv hK hP (ci := 12) (q0 := 0) rfl rfl) hP hK hD) rfl rfl hl.1 rfl (lv_room (Nat.le_of_ble_eq_true rfl)) dX12_list_161 (by decide +kernel)) hS (fun q _ h => hFc q h) hFc (fun r161 u t9_ H locs ht hvm hw9 hB9 hz1 hk1 hS => ?_)
                            have hP : va_P (dC, dI) vwCl (WR a k h0 vi vj (fT (fT (fT (fT (fT (fT vF 90 rv2) 91 x25_F91) 86 x21_F86) 87 x21_F87) 88 x21_F88) 89 x21_F89) vG) H := fz_P ht hB9.1
                            have hD := fz_sd hP (hB9.2.weaken (fun _ q _ h => hFc q.1 h)) rfl
                            have f161_0 := hw9
                            try dsimp only at f161_0
                            have f161_0 : (rv2 kk).toInt < (r161).toInt ∧ (r161).toInt ≤ 17 ∧ ((rv2 kk).toInt < 16 → (r161).toInt ≤ 16) := f161_0
                            have hr2 := hRv2 kk (by omega)
                            refine va_iast (cA := k 90) (n := 10) (f := rv2) hx hb hK hP hD hS 91 90 (WR_get 90 (by decide)) (TR_get 90 (by decide)) (vp_in_nI (show kk < 10 by omega) (by omega)) dX12_list_164 (fun H locs hP hD hS => ?_)
                            have e9 : fT (fT (fT (fT (fT (fT vF 90 (upd rv2 ((nI kk)).toNatClampNeg r161)) 91 x25_F91) 86 x21_F86) 87 x21_F87) 88 x21_F88) 89 x21_F89 = fT (fT (fT (fT (fT (fT (fT vF 90 rv2) 91 x25_F91) 86 x21_F86) 87 x21_F87) 88 x21_F88) 89 x21_F89) 90 (upd rv2 ((nI kk)).toNatClampNeg r161) := ((fT_sw _ _ _ (Nat.ne_of_beq_eq_false rfl)).trans (congrArg (fun g9 => fT g9 89 x21_F89) ((fT_sw _ _ _ (Nat.ne_of_beq_eq_false rfl)).trans (congrArg (fun g9 => fT g9 88 x21_F88) ((fT_sw _ _ _ (Nat.ne_of_beq_eq_false rfl)).trans (congrArg (fun g9 => fT g9 87 x21_F87) ((fT_sw _ _ _ (Nat.ne_of_beq_eq_false rfl)).trans (congrArg (fun g9 => fT g9 86 x21_F86) ((fT_sw _ _ _ (Nat.ne_of_beq_eq_false rfl)).trans (congrArg (fun g9 => fT g9 91 x25_F91) (fT_sm _ _ _ _))))))))))).symm
                            have hP := wr_PF e9 (fz_w (WR_F 90 (by decide) _ rfl) hP)
                            have hD := wr_DF e9 (fz_wD (WR_F 90 (by decide) _ rfl) hD)
                            clear e9
                            refine lv_aload_n hx hb dX12_list_165 rfl (lv_at hl 0 rfl) ?_
                            refine va_get (D := (dC, dI)) (ci := 12) (v := .ref (a 90)) (C := RX12) (T := TX12) (N := 163) (fs := fM (vS a vi vj)) hx hb hts iwsRX12_list_in12 hown hK hP 0 rfl rfl 143 (by decide) (hts _ hm_r_X12_list_1) (fun _ h9 => h9) rfl dX12_list_166 ?_
                            refine lv_iload hx hb dX12_list_169 (lv_at hl 3 rfl) ?_
                            refine va_iald (cA := k 90) (n := 10) (f := (upd rv2 ((nI kk)).toNatClampNeg r161)) hx hb hK hP 91 90 (WR_get 90 (by decide)) (TR_get 90 (by decide)) (vp_in_nI (show kk < 10 by omega) (by omega)) dX12_list_171 ?_
                            refine lv_topi (fun y9 hy9 => ?_)
                            obtain rfl : ((upd rv2 ((nI kk)).toNatClampNeg r161) kk) = y9 := (hy9.trans (by rw [nI_clamp (by omega)])).symm
                            refine lv_topi (fun y10 hy10 => ?_)
                            obtain rfl : r161 = y10 := (hy10.trans (by rw [upd_at (by omega), if_pos rfl])).symm
                            refine lv_bipush (v := 16) hx hb dX12_list_172 (by decide) ?_
                            refine lv_icmp_ge (tgt := 181) hx hb dX12_list_174 (by decide) (fun c_174 => ?_) (fun c_174 => ?_)
                            · have t_174 : (r161).toInt ≥ 16 := toI_ge c_174 rfl (by decide)
                              refine lv_iconst (v := 0) hx hb dX12_list_181 (by decide) ?_
                              refine lv_istore_n hx hb dX12_list_182 rfl hl (by decide) rfl (fun ls (hl : lv_has ls _ ([(2, .int 0), (0, .ref h0), (1, .int (nI (n5 + b9))), (4, .int (nI kk))])) => ?_)
                              refine lv_iload_n hx hb dX12_list_183 rfl (lv_at hl 0 rfl) ?_
                              refine lv_if_eq (tgt := 190) hx hb dX12_list_184 (by decide) (fun _ => ?_) (fun c9 => absurd (by decide) c9)
                              refine lv_aload_n hx hb dX12_list_190 rfl (lv_at hl 1 rfl) ?_
                              refine va_get (D := (dC, dI)) (ci := 12) (v := .ref (a 90)) (C := RX12) (T := TX12) (N := 163) (fs := fM (vS a vi vj)) hx hb hts iwsRX12_list_in12 hown hK hP 0 rfl rfl 143 (by decide) (hts _ hm_r_X12_list_1) (fun _ h9 => h9) rfl dX12_list_191 ?_
                              refine lv_iload hx hb dX12_list_194 (lv_at hl 3 rfl) ?_
                              refine lv_iconst (v := (-1)) hx hb dX12_list_196 (by decide) ?_
                              refine va_iast (cA := k 90) (n := 10) (f := (upd rv2 ((nI kk)).toNatClampNeg r161)) hx hb hK hP hD hS 91 90 (WR_get 90 (by decide)) (TR_get 90 (by decide)) (vp_in_nI (show kk < 10 by omega) (by omega)) dX12_list_197 (fun H locs hP hD hS => ?_)
                              have e9 : fT (fT (fT (fT (fT (fT vF 90 (upd (upd rv2 ((nI kk)).toNatClampNeg r161) ((nI kk)).toNatClampNeg (-1))) 91 x25_F91) 86 x21_F86) 87 x21_F87) 88 x21_F88) 89 x21_F89 = fT (fT (fT (fT (fT (fT (fT vF 90 (upd rv2 ((nI kk)).toNatClampNeg r161)) 91 x25_F91) 86 x21_F86) 87 x21_F87) 88 x21_F88) 89 x21_F89) 90 (upd (upd rv2 ((nI kk)).toNatClampNeg r161) ((nI kk)).toNatClampNeg (-1)) := ((fT_sw _ _ _ (Nat.ne_of_beq_eq_false rfl)).trans (congrArg (fun g9 => fT g9 89 x21_F89) ((fT_sw _ _ _ (Nat.ne_of_beq_eq_false rfl)).trans (congrArg (fun g9 => fT g9 88 x21_F88) ((fT_sw _ _ _ (Nat.ne_of_beq_eq_false rfl)).trans (congrArg (fun g9 => fT g9 87 x21_F87) ((fT_sw _ _ _ (Nat.ne_of_beq_eq_false rfl)).trans (congrArg (fun g9 => fT g9 86 x21_F86) ((fT_sw _ _ _ (Nat.ne_of_beq_eq_false rfl)).trans (congrArg (fun g9 => fT g9 91 x25_F91) (fT_sm _ _ _ _))))))))))).symm
                              have hP := wr_PF e9 (fz_w (WR_F 90 (by decide) _ rfl) hP)
                              have hD := wr_DF e9 (fz_wD (WR_F 90 (by decide) _ rfl) hD)
                              clear e9
                              refine lv_aload_n hx hb dX12_list_198 rfl (lv_at hl 1 rfl) ?_
                              refine va_get (D := (dC, dI)) (ci := 12) (v := .ref (a 90)) (C := RX12) (T := TX12) (N := 163) (fs := fM (vS a vi vj)) hx hb hts iwsRX12_list_in12 hown hK hP 0 rfl rfl 143 (by decide) (hts _ hm_r_X12_list_1) (fun _ h9 => h9) rfl dX12_list_199 ?_
                              refine lv_iload hx hb dX12_list_202 (lv_at hl 3 rfl) ?_
                              refine lv_aload_n hx hb dX12_list_204 rfl (lv_at hl 1 rfl) ?_
                              refine lv_iload hx hb dX12_list_205 (lv_at hl 3 rfl) ?_
                              have hFc := allFree hD hS hA
                              refine va_calli (va_runV (As := [.int (nI kk)]) (rest := [.int (nI kk), .ref (a 90)]) ⟨hx, hb, hml, hown, hts⟩ (r_X12_above l dC dI a k h0 vi vj (fT (fT (fT (fT (fT (fT vF 90 (upd (upd rv2 ((nI kk)).toNatClampNeg r161) ((nI kk)).toNatClampNeg (-1))) 91 x25_F91) 86 x21_F86) 87 x21_F87) 88 x21_F88) 89 x21_F89) vG kk (by first | with_reducible assumption | decide | omega | rfl | assumption) (by show -1 ≤ (upd (upd rv2 (nI kk).toNatClampNeg r161) (nI kk).toNatClampNeg (-1) kk).toInt ∧ (upd (upd rv2 (nI kk).toNatClampNeg r161) (nI kk).toNatClampNeg (-1) kk).toInt ≤ 16; rw [upd_at (by omega), if_pos rfl]; decide) H.size) (cwV 1 hts gwsRX12_list_1 rfl rfl rfl hd_yX12_above_RX12 (by decide +kernel)) (fz_pre (va_recv hK hP (ci := 12) (q0 := 0) rfl rfl) hP hK hD) rfl rfl hl.1 rfl (lv_room (Nat.le_of_ble_eq_true rfl)) dX12_list_207 (by decide +kernel)) hS (fun q _ h => hFc q h) hFc (fun r207 u t9_ H locs ht hvm hw9 hB9 hz1 hk1 hS => ?_)
                              have hP : va_P (dC, dI) vwCl (WR a k h0 vi vj (fT (fT (fT (fT (fT (fT vF 90 (upd (upd rv2 ((nI kk)).toNatClampNeg r161) ((nI kk)).toNatClampNeg (-1))) 91 x25_F91) 86 x21_F86) 87 x21_F87) 88 x21_F88) 89 x21_F89) vG) H := fz_P ht hB9.1
                              have hD := fz_sd hP (hB9.2.weaken (fun _ q _ h => hFc q.1 h)) rfl
                              have f207_0 := hw9
                              try dsimp only at f207_0
                              have f207_0 : ((upd (upd rv2 ((nI kk)).toNatClampNeg r161) ((nI kk)).toNatClampNeg (-1)) kk).toInt < (r207).toInt ∧ (r207).toInt ≤ 17 ∧ (((upd (upd rv2 ((nI kk)).toNatClampNeg r161) ((nI kk)).toNatClampNeg (-1)) kk).toInt < 16 → (r207).toInt ≤ 16) := f207_0
                              refine va_iast (cA := k 90) (n := 10) (f := (upd (upd rv2 ((nI kk)).toNatClampNeg r161) ((nI kk)).toNatClampNeg (-1))) hx hb hK hP hD hS 91 90 (WR_get 90 (by decide)) (TR_get 90 (by decide)) (vp_in_nI (show kk < 10 by omega) (by omega)) dX12_list_210 (fun H locs hP hD hS => ?_)
                              have e9 : fT (fT (fT (fT (fT (fT vF 90 (upd (upd (upd rv2 ((nI kk)).toNatClampNeg r161) ((nI kk)).toNatClampNeg (-1)) ((nI kk)).toNatClampNeg r207)) 91 x25_F91) 86 x21_F86) 87 x21_F87) 88 x21_F88) 89 x21_F89 = fT (fT (fT (fT (fT (fT (fT vF 90 (upd (upd rv2 ((nI kk)).toNatClampNeg r161) ((nI kk)).toNatClampNeg (-1))) 91 x25_F91) 86 x21_F86) 87 x21_F87) 88 x21_F88) 89 x21_F89) 90 (upd (upd (upd rv2 ((nI kk)).toNatClampNeg r161) ((nI kk)).toNatClampNeg (-1)) ((nI kk)).toNatClampNeg r207) := ((fT_sw _ _ _ (Nat.ne_of_beq_eq_false rfl)).trans (congrArg (fun g9 => fT g9 89 x21_F89) ((fT_sw _ _ _ (Nat.ne_of_beq_eq_false rfl)).trans (congrArg (fun g9 => fT g9 88 x21_F88) ((fT_sw _ _ _ (Nat.ne_of_beq_eq_false rfl)).trans (congrArg (fun g9 => fT g9 87 x21_F87) ((fT_sw _ _ _ (Nat.ne_of_beq_eq_false rfl)).trans (congrArg (fun g9 => fT g9 86 x21_F86) ((fT_sw _ _ _ (Nat.ne_of_beq_eq_false rfl)).trans (congrArg (fun g9 => fT g9 91 x25_F91) (fT_sm _ _ _ _))))))))))).symm
                              have hP := wr_PF e9 (fz_w (WR_F 90 (by decide) _ rfl) hP)
                              have hD := wr_DF e9 (fz_wD (WR_F 90 (by decide) _ rfl) hD)
                              clear e9
                              refine lv_iinc (v := ((nI kk) + (-1))) hx hb dX12_list_211 hl (k := 3) rfl rfl (by decide) rfl (fun ls (hl : lv_has ls _ ([(4, .int ((nI kk) + (-1))), (2, .int 0), (0, .ref h0), (1, .int (nI (n5 + b9)))])) => ?_)
                              refine lv_goto (tgt := 143) hx hb dX12_list_214 (by decide) ?_
                              have hl : lv_has _ _ ([(0, .ref h0), (1, .int (nI (n5 + b9))), (2, .int 0), (4, .int ((nI kk) + (-1)))]) := lv_sub hl [2, 3, 1, 0] rfl
                              exact ih143_4 0 ((nI kk) + (-1)) (kk1 - 1) (upd (upd (upd rv2 ((nI kk)).toNatClampNeg r161) ((nI kk)).toNatClampNeg (-1)) ((nI kk)).toNatClampNeg r207) _ _ _ (by rw [m1T (by omega)]; omega) (by omega) (fun q hq => by rw [upd_at (by omega), if_neg (by omega), upd_at (by omega), if_neg (by omega), upd_at (by omega), if_neg (by omega)]; exact hpre q (by omega)) (hRv2.set (k := kk) (fun q hq => by rw [upd_at (by omega), if_neg hq, upd_at (by omega), if_neg hq, upd_at (by omega), if_neg hq]) (by rw [upd_at (by omega), if_pos rfl]; (have h9 : (upd (upd rv2 (nI kk).toNatClampNeg r161) (nI kk).toNatClampNeg (-1) kk) = -1 := by rw [upd_at (by omega), if_pos rfl]); (have f9 := f207_0); rw [h9] at f9; (have h8 : ((-1 : Int32)).toInt = -1 := by decide); omega)) (Or.inl rfl) (by omega) hP hD hS hl
                            · have t_174 : ¬ (r161).toInt ≥ 16 := toI_nge c_174 rfl (by decide)
                              refine lv_iconst (v := 1) hx hb dX12_list_177 (by decide) ?_
                              refine lv_goto (tgt := 182) hx hb dX12_list_178 (by decide) ?_
                              refine lv_istore_n hx hb dX12_list_182 rfl hl (by decide) rfl (fun ls (hl : lv_has ls _ ([(2, .int 1), (0, .ref h0), (1, .int (nI (n5 + b9))), (4, .int (nI kk))])) => ?_)
                              have hup := odo_up (f := dgR rv) (g := dgR (upd rv2 (nI kk).toNatClampNeg r161)) (b := fun _ => 18) (r := kk) (fun q hq => by unfold dgR; rw [upd_at (by omega), if_neg (by omega), hpre q (by omega)]) (by unfold dgR; rw [upd_at (by omega), if_pos rfl, ← hpre kk (by omega)]; omega) hn (by omega) (fun q h1 h2 => hRv.dg h2)
                              refine lv_iload_n hx hb dX12_list_183 rfl (lv_at hl 0 rfl) ?_
                              refine lv_if_eq (tgt := 190) hx hb dX12_list_184 (by decide) (fun c9 => absurd c9 (by decide)) (fun _ => ?_)
                              refine lv_goto (tgt := 211) hx hb dX12_list_187 (by decide) ?_
                              refine lv_iinc (v := ((nI kk) + (-1))) hx hb dX12_list_211 hl (k := 3) rfl rfl (by decide) rfl (fun ls (hl : lv_has ls _ ([(4, .int ((nI kk) + (-1))), (2, .int 1), (0, .ref h0), (1, .int (nI (n5 + b9)))])) => ?_)
                              refine lv_goto (tgt := 143) hx hb dX12_list_214 (by decide) ?_
                              have hl : lv_has _ _ ([(0, .ref h0), (1, .int (nI (n5 + b9))), (2, .int 1), (4, .int ((nI kk) + (-1)))]) := lv_sub hl [2, 3, 1, 0] rfl
                              exact ih143_4 1 ((nI kk) + (-1)) (kk1 - 1) (upd rv2 ((nI kk)).toNatClampNeg r161) _ _ _ (by rw [m1T (by omega)]; omega) (by omega) (fun q hq => by rw [upd_at (by omega), if_neg (by omega)]; exact hpre q (by omega)) (hRv2.set (k := kk) (fun q hq => by rw [upd_at (by omega), if_neg hq]) (by rw [upd_at (by omega), if_pos rfl]; omega)) (Or.inr hup) (by omega) hP hD hS hl
    · have t_7 : ¬ ((h1 : Nat) : Int) ≥ ((hn : Nat) : Int) := toI_nge c_7 (nI_toInt (by omega)) (nI_toInt (by omega))
      refine lv_aload_n hx hb dX12_list_10 rfl (lv_at hl 0 rfl) ?_
      refine va_get (D := (dC, dI)) (ci := 12) (v := .ref (a 90)) (C := RX12) (T := TX12) (N := 163) (fs := fM (vS a vi vj)) hx hb hts iwsRX12_list_in12 hown hK hP 0 rfl rfl 143 (by decide) (hts _ hm_r_X12_list_1) (fun _ h9 => h9) rfl dX12_list_11 ?_
      refine lv_iload_n hx hb dX12_list_14 rfl (lv_at hl 1 rfl) ?_
      refine lv_iconst (v := (-1)) hx hb dX12_list_15 (by decide) ?_
      refine va_iast (cA := k 90) (n := 10) (f := g0) hx hb hK hP hD hS 91 90 (WR_get 90 (by decide)) (TR_get 90 (by decide)) (vp_in_nI (show h1 < 10 by omega) (by omega)) dX12_list_16 (fun H locs hP hD hS => ?_)
      have e9 : fT vF 90 (upd g0 ((nI h1)).toNatClampNeg (-1)) = fT (fT vF 90 g0) 90 (upd g0 ((nI h1)).toNatClampNeg (-1)) := (fT_sm _ _ _ _).symm
      have hP := wr_PF e9 (fz_w (WR_F 90 (by decide) _ rfl) hP)
      have hD := wr_DF e9 (fz_wD (WR_F 90 (by decide) _ rfl) hD)
      clear e9
      refine lv_aload_n hx hb dX12_list_17 rfl (lv_at hl 0 rfl) ?_
      refine va_get (D := (dC, dI)) (ci := 12) (v := .ref (a 90)) (C := RX12) (T := TX12) (N := 163) (fs := fM (vS a vi vj)) hx hb hts iwsRX12_list_in12 hown hK hP 0 rfl rfl 143 (by decide) (hts _ hm_r_X12_list_1) (fun _ h9 => h9) rfl dX12_list_18 ?_
      refine lv_iload_n hx hb dX12_list_21 rfl (lv_at hl 1 rfl) ?_
      refine lv_aload_n hx hb dX12_list_22 rfl (lv_at hl 0 rfl) ?_
      refine lv_iload_n hx hb dX12_list_23 rfl (lv_at hl 1 rfl) ?_
      have hFc := allFree hD hS hA
      refine va_calli (va_runV (As := [.int (nI h1)]) (rest := [.int (nI h1), .ref (a 90)]) ⟨hx, hb, hml, hown, hts⟩ (r_X12_above l dC dI a k h0 vi vj (fT vF 90 (upd g0 ((nI h1)).toNatClampNeg (-1))) vG h1 (by first | with_reducible assumption | decide | omega | rfl | assumption) (by show -1 ≤ (upd g0 (nI h1).toNatClampNeg (-1) h1).toInt ∧ (upd g0 (nI h1).toNatClampNeg (-1) h1).toInt ≤ 16; rw [upd_at (by omega), if_pos rfl]; decide) H.size) (cwV 1 hts gwsRX12_list_1 rfl rfl rfl hd_yX12_above_RX12 (by decide +kernel)) (fz_pre (va_recv hK hP (ci := 12) (q0 := 0) rfl rfl) hP hK hD) rfl rfl hl.1 rfl (lv_room (Nat.le_of_ble_eq_true rfl)) dX12_list_24 (by decide +kernel)) hS (fun q _ h => hFc q h) hFc (fun r24 u t9_ H locs ht hvm hw9 hB9 hz1 hk1 hS => ?_)
      have hP : va_P (dC, dI) vwCl (WR a k h0 vi vj (fT vF 90 (upd g0 ((nI h1)).toNatClampNeg (-1))) vG) H := fz_P ht hB9.1
      have hD := fz_sd hP (hB9.2.weaken (fun _ q _ h => hFc q.1 h)) rfl
      have f24_0 := hw9
      try dsimp only at f24_0
      have f24_0 : ((upd g0 ((nI h1)).toNatClampNeg (-1)) h1).toInt < (r24).toInt ∧ (r24).toInt ≤ 17 ∧ (((upd g0 ((nI h1)).toNatClampNeg (-1)) h1).toInt < 16 → (r24).toInt ≤ 16) := f24_0
      refine va_iast (cA := k 90) (n := 10) (f := (upd g0 ((nI h1)).toNatClampNeg (-1))) hx hb hK hP hD hS 91 90 (WR_get 90 (by decide)) (TR_get 90 (by decide)) (vp_in_nI (show h1 < 10 by omega) (by omega)) dX12_list_27 (fun H locs hP hD hS => ?_)
      have e9 : fT vF 90 (upd (upd g0 ((nI h1)).toNatClampNeg (-1)) ((nI h1)).toNatClampNeg r24) = fT (fT vF 90 (upd g0 ((nI h1)).toNatClampNeg (-1))) 90 (upd (upd g0 ((nI h1)).toNatClampNeg (-1)) ((nI h1)).toNatClampNeg r24) := (fT_sm _ _ _ _).symm
      have hP := wr_PF e9 (fz_w (WR_F 90 (by decide) _ rfl) hP)
      have hD := wr_DF e9 (fz_wD (WR_F 90 (by decide) _ rfl) hD)
      clear e9
      refine lv_iinc (v := (nI (h1 + 1))) hx hb dX12_list_28 hl (k := 1) rfl (nI_add h1 1) (by decide) rfl (fun ls (hl : lv_has ls _ ([(1, .int (nI (h1 + 1))), (0, .ref h0)])) => ?_)
      refine lv_goto (tgt := 2) hx hb dX12_list_31 (by decide) ?_
      have hl : lv_has _ _ ([(0, .ref h0), (1, .int (nI (h1 + 1)))]) := lv_sub hl [1, 0] rfl
      exact ih2 (h1 + 1) (upd (upd g0 ((nI h1)).toNatClampNeg (-1)) ((nI h1)).toNatClampNeg r24) _ _ _ (by omega) (fun h hh => by rw [upd_at (by omega)]; by_cases e9 : h = h1; (rw [if_pos e9]; (have h9 : (upd g0 (nI h1).toNatClampNeg (-1) h1) = -1 := by rw [upd_at (by omega), if_pos rfl]); (have f9 := f24_0); rw [h9] at f9; (have h8 : ((-1 : Int32)).toInt = -1 := by decide); omega); (rw [if_neg e9, upd_at (by omega), if_neg e9]; exact hz h (by omega))) (by omega) hP hD hS hl
theorem dX12_listing_0 : decode cX12_listing 0 = .ok (.aload_n 0, 1) := dk_42 (by decide +kernel)
theorem dX12_listing_1 : decode cX12_listing 1 = .ok (.iconst 0, 1) := dk_3 (by decide +kernel)
theorem dX12_listing_2 : decode cX12_listing 2 = .ok (.putfield 348, 3) := dk_181 (by decide +kernel)
theorem dX12_listing_5 : decode cX12_listing 5 = .ok (.lconst 1, 1) := dk_10 (by decide +kernel)
theorem dX12_listing_6 : decode cX12_listing 6 = .ok (.lstore_n 1, 1) := dk_64 (by decide +kernel)
theorem dX12_listing_7 : decode cX12_listing 7 = .ok (.iconst 0, 1) := dk_3 (by decide +kernel)
theorem dX12_listing_8 : decode cX12_listing 8 = .ok (.istore_n 3, 1) := dk_62 (by decide +kernel)
theorem dX12_listing_9 : decode cX12_listing 9 = .ok (.iload_n 3, 1) := dk_29 (by decide +kernel)
theorem dX12_listing_10 : decode cX12_listing 10 = .ok (.aload_n 0, 1) := dk_42 (by decide +kernel)
theorem dX12_listing_11 : decode cX12_listing 11 = .ok (.getfield 978, 3) := dk_180 (by decide +kernel)
theorem dX12_listing_14 : decode cX12_listing 14 = .ok (.if_icmp .ge 22, 3) := dk_162 (by decide +kernel)
theorem dX12_listing_17 : decode cX12_listing 17 = .ok (.lload_n 1, 1) := dk_31 (by decide +kernel)
theorem dX12_listing_18 : decode cX12_listing 18 = .ok (.aload_n 0, 1) := dk_42 (by decide +kernel)
theorem dX12_listing_19 : decode cX12_listing 19 = .ok (.getfield 257, 3) := dk_180 (by decide +kernel)
theorem dX12_listing_22 : decode cX12_listing 22 = .ok (.iload_n 3, 1) := dk_29 (by decide +kernel)
theorem dX12_listing_23 : decode cX12_listing 23 = .ok (.iaload, 1) := dk_46 (by decide +kernel)
theorem dX12_listing_24 : decode cX12_listing 24 = .ok (.invokestatic 1040, 3) := dk_184 (by decide +kernel)
theorem dX12_listing_27 : decode cX12_listing 27 = .ok (.i2l, 1) := dk_133 (by decide +kernel)
theorem dX12_listing_28 : decode cX12_listing 28 = .ok (.lmul, 1) := dk_105 (by decide +kernel)
theorem dX12_listing_29 : decode cX12_listing 29 = .ok (.lstore_n 1, 1) := dk_64 (by decide +kernel)
theorem dX12_listing_30 : decode cX12_listing 30 = .ok (.iinc 3 1, 3) := dk_132 (by decide +kernel)
theorem dX12_listing_33 : decode cX12_listing 33 = .ok (.goto (-24), 3) := dk_167 (by decide +kernel)
theorem dX12_listing_36 : decode cX12_listing 36 = .ok (.lload_n 1, 1) := dk_31 (by decide +kernel)
theorem dX12_listing_37 : decode cX12_listing 37 = .ok (.ldc2_w 1043, 3) := dk_20 (by decide +kernel)
theorem dX12_listing_40 : decode cX12_listing 40 = .ok (.lcmp, 1) := dk_148 (by decide +kernel)
theorem dX12_listing_41 : decode cX12_listing 41 = .ok (.ifCond .le 5, 3) := dk_158 (by decide +kernel)
theorem dX12_listing_44 : decode cX12_listing 44 = .ok (.iconst (-1), 1) := dk_2 (by decide +kernel)
theorem dX12_listing_45 : decode cX12_listing 45 = .ok (.ireturn, 1) := dk_172 (by decide +kernel)
theorem dX12_listing_46 : decode cX12_listing 46 = .ok (.aload_n 0, 1) := dk_42 (by decide +kernel)
theorem dX12_listing_47 : decode cX12_listing 47 = .ok (.getfield 300, 3) := dk_180 (by decide +kernel)
theorem dX12_listing_50 : decode cX12_listing 50 = .ok (.iconst (-1), 1) := dk_2 (by decide +kernel)
theorem dX12_listing_51 : decode cX12_listing 51 = .ok (.if_icmp .ne 11, 3) := dk_160 (by decide +kernel)
theorem dX12_listing_54 : decode cX12_listing 54 = .ok (.aload_n 0, 1) := dk_42 (by decide +kernel)
theorem dX12_listing_55 : decode cX12_listing 55 = .ok (.aload_n 0, 1) := dk_42 (by decide +kernel)
theorem dX12_listing_56 : decode cX12_listing 56 = .ok (.invokevirtual 1045, 3) := dk_182 (by decide +kernel)
theorem dX12_listing_59 : decode cX12_listing 59 = .ok (.putfield 300, 3) := dk_181 (by decide +kernel)
theorem dX12_listing_62 : decode cX12_listing 62 = .ok (.aload_n 0, 1) := dk_42 (by decide +kernel)
theorem dX12_listing_63 : decode cX12_listing 63 = .ok (.getfield 300, 3) := dk_180 (by decide +kernel)
theorem dX12_listing_66 : decode cX12_listing 66 = .ok (.ireturn, 1) := dk_172 (by decide +kernel)
def wsRX12_listing : List Cond := .code yX12_listing cX12_listing 4 (some .int) :: ([.fieldLink RX12 348 "OptimaWorksModel" "thrown" "I", .fieldLink RX12 978 "OptimaWorksModel" "holders" "I", .constantLong RX12 1043 20000, .fieldLink RX12 300 "OptimaWorksModel" "listedMany" "I", .fieldLink RX12 257 "OptimaWorksModel" "domain" "[I"] ++ wsX120 ++ (wsV RX12 1045 RX12 yX12_list wsRX12_list) ++ (va_wsS RX12 1040 yX12_ones wsRonesb))
theorem iwsRX12_listing_in12 : ∀ w ∈ wsX120, w ∈ wsRX12_listing := fun _ h => List.mem_cons_of_mem _ (List.mem_append_left _ (List.mem_append_left _ (List.mem_append_right _ h)))
theorem gwsRX12_listing_0 : GoodIn wsRX12_listing (wsV RX12 1045 RX12 yX12_list wsRX12_list) := goodIn_sub (fun _ h => List.mem_cons_of_mem _ (List.mem_append_left _ (List.mem_append_right _ h))) (gdV (by decide +kernel) gdwsRX12_list)
theorem gwsRX12_listing_1 : GoodIn wsRX12_listing (va_wsS RX12 1040 yX12_ones wsRonesb) := goodIn_sub (fun _ h => List.mem_cons_of_mem _ (List.mem_append_right _ h)) (gdS (by decide +kernel) gdwsRonesb)
theorem gdwsRX12_listing : wsRX12_listing.all goodWord = true := gdC rfl (gdA (gdA (gdA (by decide +kernel : ([.fieldLink RX12 348 "OptimaWorksModel" "thrown" "I", .fieldLink RX12 978 "OptimaWorksModel" "holders" "I", .constantLong RX12 1043 20000, .fieldLink RX12 300 "OptimaWorksModel" "listedMany" "I", .fieldLink RX12 257 "OptimaWorksModel" "domain" "[I"] : List Cond).all goodWord = true) gdwsX120) (gdV (by decide +kernel) gdwsRX12_list)) (gdS (by decide +kernel) gdwsRonesb))
theorem hm_r_X12_listing_0 : (.fieldLink RX12 300 "OptimaWorksModel" "listedMany" "I" : Cond) ∈ wsRX12_listing := by decide +kernel
set_option maxHeartbeats 4000000 in
set_option maxRecDepth 100000 in
/-- listing() -/
theorem r_X12_listing (l : Launch) (dC : Nat → ClassId) (dI : Nat → Nat → Nat) (a : Nat → Nat) (k : Nat → ClassId) (h0 : Nat) (vi : Nat → Int32) (vj : Nat → Int64) (vF : Nat → Nat → Int32) (vG : Nat → Nat → Int64) (hn : Nat) (ru : Nat) (hhn : vi 128 = nI hn) (hhn10 : hn ≤ 10) (hru : vi 129 = nI ru) (hru12 : ru ≤ 12) (hRu : RuO (vF 80) (vF 81) (vF 82) (vF 83) hn ru) (hDo : DoO (vF 78) hn) (hLm : LmO (vi 145)) (sz : Nat) : Met l yX12_listing wsRX12_listing ({ frames := 6, cells := 0, slots := 0, locals := 142 }) (va_Pc [.ref h0] (fun U => U.heap.size = sz ∧ va_P (dC, dI) vwCl (WR a k h0 vi vj vF vG) U.heap ∧ va_K (dC, dI) vwCl (tX12 k) U ∧ va_D (fun _ => True) (WR a k h0 vi vj vF vG))) (va_Qi (fun (r : Int32) (u : (Int32) × (Nat → Int32) × (Nat → Int32) × (Nat → Int32) × (Nat → Int32) × (Nat → Int32) × (Nat → Int32)) => (LmO (u.1)) ∧ ((r) = -1 ∨ (r) = (u.1))) (fun (u : (Int32) × (Nat → Int32) × (Nat → Int32) × (Nat → Int32) × (Nat → Int32) × (Nat → Int32) × (Nat → Int32)) t => va_P (dC, dI) vwCl (WR a k h0 (fT (fT vi 0 0) 145 (u.1)) vj (fT (fT (fT (fT (fT (fT vF 90 (u.2.1)) 91 (u.2.2.1)) 86 (u.2.2.2.1)) 87 (u.2.2.2.2.1)) 88 (u.2.2.2.2.2.1)) 89 (u.2.2.2.2.2.2)) vG) t.heap ∧ va_D (va_A (WR a k h0 vi vj vF vG) sz) (WR a k h0 (fT (fT vi 0 0) 145 (u.1)) vj (fT (fT (fT (fT (fT (fT vF 90 (u.2.1)) 91 (u.2.2.1)) 86 (u.2.2.2.1)) 87 (u.2.2.2.2.1)) 88 (u.2.2.2.2.2.1)) 89 (u.2.2.2.2.2.2)) vG)) (va_A (WR a k h0 vi vj vF vG) sz)) 0 0 (va_A (WR a k h0 vi vj vF vG) sz) := by
  refine Met.ofW (cc := cX12_listing) (maxL := 4) (ret := (some .int)) (by decide) rfl ?_
  intro p e s m args below meth c s₁ B hml hv
  obtain ⟨rfl, hsz, hP, hK, hD0⟩ := hv
  have hx := B.exec
  have hb := B.bytes
  have hr := B.returns
  have hts := atoms_spec (ws := wsRX12_listing) B.pre
  have hown : s.vm.findClass RX12 = some m.cls := findClass_of_methodNamed B.named
  have hlocks := B.notSynchronized
  subst hsz
  have hD := hD0.self (sz := s.heap.size)
  generalize hAe : va_A (WR a k h0 vi vj vF vG) s.heap.size = A at hD ⊢
  have hA : ∀ q : Nat, s.heap.size ≤ q → A q := fun q h => by rw [← hAe]; exact Or.inr h
  have hS : va_S A s.heap s.heap [] := va_S.rf
  have hl := lv_entry ([.ref h0]) (n := 4) (Nat.le_of_ble_eq_true rfl)
  rw [lg_entry_eq]
  generalize (lg_sl ([.ref h0]) ++ List.replicate (4 - (lg_sl ([.ref h0])).length) Slot.unset).toArray = ls at hl ⊢
  have hl : lv_has ls 4 [(0, .ref h0)] := hl
  refine lv_aload_n hx hb dX12_listing_0 rfl (lv_at hl 0 rfl) ?_
  refine lv_iconst (v := 0) hx hb dX12_listing_1 (by decide) ?_
  refine va_put (D := (dC, dI)) (ci := 12) (v := .int 0) (ty := .int) (C := RX12) (T := TX12) (N := 163) (fs := fM (vS a vi vj)) hx hb hts iwsRX12_listing_in12 tyX12 tyX12_ok nmX12 hown hK hP hD hS 0 rfl rfl 0 (by decide) (hts (.fieldLink RX12 348 "OptimaWorksModel" "thrown" "I") (by decide +kernel)) (fun _ h9 => h9) rfl (by decide +kernel) rfl rfl (Nat.le_of_ble_eq_true rfl) dX12_listing_2 (fun H locs hP hD hS => ?_)
  have hP : va_P (dC, dI) vwCl (WR a k h0 (fT vi 0 0) vj vF vG) H := fz_w (WR_i 0 _ rfl) hP
  have hD : va_D A (WR a k h0 (fT vi 0 0) vj vF vG) := fz_wD (WR_i 0 _ rfl) hD
  refine lv_lconst (v := 1) hx hb dX12_listing_5 (by decide) ?_
  refine lv_lstore_n hx hb dX12_listing_6 rfl hl (by decide) rfl (fun ls (hl : lv_has ls _ ([(1, .long 1), (0, .ref h0)])) => ?_)
  refine lv_iconst (v := 0) hx hb dX12_listing_7 (by decide) ?_
  refine lv_istore_n hx hb dX12_listing_8 rfl hl (by decide) rfl (fun ls (hl : lv_has ls _ ([(3, .int 0), (1, .long 1), (0, .ref h0)])) => ?_)
  have hl : lv_has _ _ ([(0, .ref h0), (1, .long 1), (3, .int (nI 0))]) := lv_sub hl [2, 1, 0] rfl
  refine (fun (loop : ∀ (n9 : Nat) (h5 : Nat) (al : Int64) (H : Heap) (locs : List Loc) (ls : Array Slot), (h5 ≤ hn) →  (hn < h5 + n9) → va_P (dC, dI) vwCl (WR a k h0 (fT vi 0 0) vj vF vG) H → va_D A (WR a k h0 (fT vi 0 0) vj vF vG) → va_S A s.heap H locs → lv_has ls 4 [(0, .ref h0), (1, .long al), (3, .int (nI h5))] → W p l e _ s m _ below meth c H locs 0 0 _ (F0 m 9 ls [])) => loop (hn + 1) 0 1 _ _ _ (by omega) (by omega) hP hD hS hl) ?_
  intro n9
  induction n9 with
  | zero => intro h5 al H locs ls hh5 hf9; exact False.elim (by omega)
  | succ n9 ih9 =>
    intro h5 al H locs ls hh5 hf9 hP hD hS hl
    refine lv_iload_n hx hb dX12_listing_9 rfl (lv_at hl 2 rfl) ?_
    refine lv_aload_n hx hb dX12_listing_10 rfl (lv_at hl 0 rfl) ?_
    refine va_get (D := (dC, dI)) (ci := 12) (v := .int (vi 128)) (C := RX12) (T := TX12) (N := 163) (fs := fM (vS a (fT vi 0 0) vj)) hx hb hts iwsRX12_listing_in12 hown hK hP 0 rfl rfl 128 (by decide) (hts (.fieldLink RX12 978 "OptimaWorksModel" "holders" "I") (by decide +kernel)) (fun _ h9 => h9) rfl dX12_listing_11 ?_
    refine lv_topi (fun y1 hy1 => ?_)
    obtain rfl : (nI hn) = y1 := (hy1.trans (hhn)).symm
    refine lv_icmp_ge (tgt := 36) hx hb dX12_listing_14 (by decide) (fun c_14 => ?_) (fun c_14 => ?_)
    · have t_14 : ((h5 : Nat) : Int) ≥ ((hn : Nat) : Int) := toI_ge c_14 (nI_toInt (by omega)) (nI_toInt (by omega))
      refine lv_lload_n hx hb dX12_listing_36 rfl (lv_at hl 1 rfl) ?_
      refine lv_ldc2 (v := 20000) hx hb hown (hts (.constantLong RX12 1043 20000) (by decide +kernel)) dX12_listing_37 ?_
      refine W.lcmp hx hb dX12_listing_40 ?_
      refine lv_if_le (tgt := 46) hx hb dX12_listing_41 (by decide) (fun c_41 => ?_) (fun c_41 => ?_)
      · have t_41 : (al).toInt ≤ 20000 := toL_le c_41 rfl (by decide)
        refine lv_aload_n hx hb dX12_listing_46 rfl (lv_at hl 0 rfl) ?_
        refine va_get (D := (dC, dI)) (ci := 12) (v := .int (vi 145)) (C := RX12) (T := TX12) (N := 163) (fs := fM (vS a (fT vi 0 0) vj)) hx hb hts iwsRX12_listing_in12 hown hK hP 0 rfl rfl 145 (by decide) (hts _ hm_r_X12_listing_0) (fun _ h9 => h9) rfl dX12_listing_47 ?_
        refine lv_iconst (v := (-1)) hx hb dX12_listing_50 (by decide) ?_
        refine W.cut (pc := 62) (fun H locs ls stk => ∃ (j1_i145 : Int32) (j1_F90 : Nat → Int32) (j1_F91 : Nat → Int32) (j1_F86 : Nat → Int32) (j1_F87 : Nat → Int32) (j1_F88 : Nat → Int32) (j1_F89 : Nat → Int32), (LmO j1_i145) ∧  stk = [] ∧ va_P (dC, dI) vwCl (WR a k h0 (fT (fT vi 0 0) 145 j1_i145) vj (fT (fT (fT (fT (fT (fT vF 90 j1_F90) 91 j1_F91) 86 j1_F86) 87 j1_F87) 88 j1_F88) 89 j1_F89) vG) H ∧ va_D A (WR a k h0 (fT (fT vi 0 0) 145 j1_i145) vj (fT (fT (fT (fT (fT (fT vF 90 j1_F90) 91 j1_F91) 86 j1_F86) 87 j1_F87) 88 j1_F88) 89 j1_F89) vG) ∧ va_S A s.heap H locs ∧ lv_has ls 4 [(0, .ref h0), (1, .long al), (3, .int (nI h5))]) (fun join1 => ?_) ?_
        · refine lv_icmp_ne (tgt := 62) hx hb dX12_listing_51 (by decide) (fun c_51 => ?_) (fun c_51 => ?_)
          · have t_51 : ((vi 145)).toInt ≠ -1 := toI_ne c_51 rfl (by decide)
            have e9 : fT (fT vi 0 0) 145 (vi 145) = fT vi 0 0 := id_1 rfl
            have hP := wr_Pi e9 hP
            have hD := wr_Di e9 hD
            clear e9
            have e9 : fT (fT (fT (fT (fT (fT vF 90 (vF 90)) 91 (vF 91)) 86 (vF 86)) 87 (vF 87)) 88 (vF 88)) 89 (vF 89) = vF := Eq.trans (mv_5 rfl) (Eq.trans (id_5 rfl) (Eq.trans (mv_4 rfl) (Eq.trans (id_4 rfl) (Eq.trans (mv_3 rfl) (Eq.trans (id_3 rfl) (Eq.trans (mv_2 rfl) (Eq.trans (id_2 rfl) (Eq.trans (mv_1 rfl) (Eq.trans (id_1 rfl) (id_0 rfl))))))))))
            have hP := wr_PF e9 hP
            have hD := wr_DF e9 hD
            clear e9
            have hl : lv_has _ _ ([(0, .ref h0), (1, .long al), (3, .int (nI h5))]) := lv_sub hl [0, 1, 2] rfl
            exact join1 _ _ _ _ ⟨(vi 145), (vF 90), (vF 91), (vF 86), (vF 87), (vF 88), (vF 89), hLm, rfl, hP, hD, hS, hl⟩
          · have t_51 : ((vi 145)).toInt = -1 := toI_nne c_51 rfl (by decide)
            refine lv_aload_n hx hb dX12_listing_54 rfl (lv_at hl 0 rfl) ?_
            refine lv_aload_n hx hb dX12_listing_55 rfl (lv_at hl 0 rfl) ?_
            have hFc := allFree hD hS hA
            refine va_calli (va_runV (As := []) (rest := [.ref h0]) ⟨hx, hb, hml, hown, hts⟩ (r_X12_list l dC dI a k h0 (fT vi 0 0) vj vF vG hn ru hhn (by first | with_reducible assumption | decide | omega | rfl | assumption) hru (by first | with_reducible assumption | decide | omega | rfl | assumption) (by first | with_reducible assumption | decide | omega | rfl | assumption) H.size) (cwV 0 hts gwsRX12_listing_0 rfl rfl rfl hd_yX12_list_RX12 (by decide +kernel)) (fz_pre (va_recv hK hP (ci := 12) (q0 := 0) rfl rfl) hP hK hD) rfl rfl hl.1 rfl (lv_room (Nat.le_of_ble_eq_true rfl)) dX12_listing_56 (by decide +kernel)) hS (fun q _ h => hFc q h) hFc (fun r56 u t9_ H locs ht hvm hw9 hB9 hz1 hk1 hS => ?_)
            revert u hw9 hB9
            refine fz_p7 ?_
            intro ln56 g9056 g9156 g8656 g8756 g8856 g8956 hw9 hB9
            try dsimp only at hw9 hB9
            have hP : va_P (dC, dI) vwCl (WR a k h0 (fT vi 0 0) vj (fT (fT (fT (fT (fT (fT vF 90 g9056) 91 g9156) 86 g8656) 87 g8756) 88 g8856) 89 g8956) vG) H := fz_P ht hB9.1
            have hD := fz_sd hP (hB9.2.weaken (fun _ q _ h => hFc q.1 h)) rfl
            obtain ⟨rfl, f56_0⟩ := hw9
            refine va_put (D := (dC, dI)) (ci := 12) (v := .int (nI ln56)) (ty := .int) (C := RX12) (T := TX12) (N := 163) (fs := fM (vS a (fT vi 0 0) vj)) hx hb hts iwsRX12_listing_in12 tyX12 tyX12_ok nmX12 hown hK hP hD hS 0 rfl rfl 145 (by decide) (hts _ hm_r_X12_listing_0) (fun _ h9 => h9) rfl (by decide +kernel) rfl rfl (Nat.le_of_ble_eq_true rfl) dX12_listing_59 (fun H locs hP hD hS => ?_)
            have hP : va_P (dC, dI) vwCl (WR a k h0 (fT (fT vi 0 0) 145 (nI ln56)) vj (fT (fT (fT (fT (fT (fT vF 90 g9056) 91 g9156) 86 g8656) 87 g8756) 88 g8856) 89 g8956) vG) H := fz_w (WR_i 145 _ rfl) hP
            have hD : va_D A (WR a k h0 (fT (fT vi 0 0) 145 (nI ln56)) vj (fT (fT (fT (fT (fT (fT vF 90 g9056) 91 g9156) 86 g8656) 87 g8756) 88 g8856) 89 g8956) vG) := fz_wD (WR_i 145 _ rfl) hD
            have hl : lv_has _ _ ([(0, .ref h0), (1, .long al), (3, .int (nI h5))]) := lv_sub hl [0, 1, 2] rfl
            exact join1 _ _ _ _ ⟨(nI ln56), g9056, g9156, g8656, g8756, g8856, g8956, Or.inr ⟨_, f56_0, rfl⟩, rfl, hP, hD, hS, hl⟩
        · rintro H locs ls stk ⟨j1_i145, j1_F90, j1_F91, j1_F86, j1_F87, j1_F88, j1_F89, hlm, rfl, hP, hD, hS, hl⟩
          refine lv_aload_n hx hb dX12_listing_62 rfl (lv_at hl 0 rfl) ?_
          refine va_get (D := (dC, dI)) (ci := 12) (v := .int j1_i145) (C := RX12) (T := TX12) (N := 163) (fs := fM (vS a (fT (fT vi 0 0) 145 j1_i145) vj)) hx hb hts iwsRX12_listing_in12 hown hK hP 0 rfl rfl 145 (by decide) (hts _ hm_r_X12_listing_0) (fun _ h9 => h9) rfl dX12_listing_63 ?_
          refine W.widen (k := 0) (n := 0) (by decide +kernel) (by decide +kernel) ?_
          exact W.iret (v := j1_i145) hx hb hr (fun t9_ ht hW => ⟨⟨j1_i145, (j1_i145, j1_F90, j1_F91, j1_F86, j1_F87, j1_F88, j1_F89), rfl, by (try dsimp only); exact ⟨hlm, Or.inr rfl⟩, by rw [ht]; exact hP, hD⟩, hS.F ht⟩) hS.2.2 dX12_listing_66
      · have t_41 : ¬ (al).toInt ≤ 20000 := toL_nle c_41 rfl (by decide)
        refine lv_iconst (v := (-1)) hx hb dX12_listing_44 (by decide) ?_
        refine W.widen (k := 0) (n := 0) (by decide +kernel) (by decide +kernel) ?_
        have e9 : fT (fT vi 0 0) 145 (vi 145) = fT vi 0 0 := fT_id _ _ (fT_ne _ _ (Nat.ne_of_beq_eq_false rfl))
        have hP := wr_Pi e9 hP
        have hD := wr_Di e9 hD
        clear e9
        have e9 : fT (fT (fT (fT (fT (fT vF 90 (vF 90)) 91 (vF 91)) 86 (vF 86)) 87 (vF 87)) 88 (vF 88)) 89 (vF 89) = vF := Eq.trans (mv_5 rfl) (Eq.trans (id_5 rfl) (Eq.trans (mv_4 rfl) (Eq.trans (id_4 rfl) (Eq.trans (mv_3 rfl) (Eq.trans (id_3 rfl) (Eq.trans (mv_2 rfl) (Eq.trans (id_2 rfl) (Eq.trans (mv_1 rfl) (Eq.trans (id_1 rfl) (id_0 rfl))))))))))
        have hP := wr_PF e9 hP
        have hD := wr_DF e9 hD
        clear e9
        exact W.iret (v := (-1)) hx hb hr (fun t9_ ht hW => ⟨⟨(-1), ((vi 145), (vF 90), (vF 91), (vF 86), (vF 87), (vF 88), (vF 89)), rfl, by (try dsimp only); exact ⟨hLm, Or.inl rfl⟩, by rw [ht]; exact hP, hD⟩, hS.F ht⟩) hS.2.2 dX12_listing_45
    · have t_14 : ¬ ((h5 : Nat) : Int) ≥ ((hn : Nat) : Int) := toI_nge c_14 (nI_toInt (by omega)) (nI_toInt (by omega))
      refine lv_lload_n hx hb dX12_listing_17 rfl (lv_at hl 1 rfl) ?_
      refine lv_aload_n hx hb dX12_listing_18 rfl (lv_at hl 0 rfl) ?_
      refine va_get (D := (dC, dI)) (ci := 12) (v := .ref (a 78)) (C := RX12) (T := TX12) (N := 163) (fs := fM (vS a (fT vi 0 0) vj)) hx hb hts iwsRX12_listing_in12 hown hK hP 0 rfl rfl 130 (by decide) (hts (.fieldLink RX12 257 "OptimaWorksModel" "domain" "[I") (by decide +kernel)) (fun _ h9 => h9) rfl dX12_listing_19 ?_
      refine lv_iload_n hx hb dX12_listing_22 rfl (lv_at hl 2 rfl) ?_
      refine va_iald (cA := k 78) (n := 10) (f := (vF 78)) hx hb hK hP 79 78 (WR_get 78 (by decide)) (TR_get 78 (by decide)) (vp_in_nI (show h5 < 10 by omega) (by omega)) dX12_listing_23 ?_
      refine lv_topi (fun y2 hy2 => ?_)
      obtain rfl : ((vF 78) h5) = y2 := (hy2.trans (by rw [nI_clamp (by omega)])).symm
      obtain ⟨b5, hb5, eb5⟩ := hDo h5 (by omega)
      refine lv_topi (fun y3 hy3 => ?_)
      obtain rfl : (nI b5) = y3 := (hy3.trans (eb5)).symm
      have hFc := noneFree hS hA
      refine va_calli (va_runS (As := [.int (nI b5)]) (rest := [.long al]) ⟨hx, hb, hml, hown, hts⟩ (r_X12_onesb l dC dI b5 (by first | with_reducible assumption | decide | omega | rfl | assumption) H.size) (va_cwS 1 hts gwsRX12_listing_1 rfl rfl rfl (by decide +kernel) ⟨by decide +kernel, by decide +kernel⟩) ⟨fun a U g mk q => by obtain ⟨q0, q1, qP, qK, qD⟩ := q; exact ⟨q0, q1, qP, va_K.moved (u := U) (U := U.calling g mk a) (Vm.Alike.refl U.vm) qK, qD⟩, fun U hU9 hW => ⟨rfl, by rw [hU9], by rw [hU9]; exact nilP, va_K.moved hW.alike (hK.sub (tys' := []) [] rfl), nilD⟩⟩ rfl rfl hl.1 rfl (lv_room (Nat.le_of_ble_eq_true rfl)) dX12_listing_24 (by decide +kernel)) hS (fun q _ h => hFc q h) hFc (fun r24 u t9_ H1 locs ht hvm hw9 hB9 hz1 hk1 hS => ?_)
      have hP := keepAll hP hk1
      clear hB9
      generalize H1 = H at hP hS ⊢
      have hP : va_P (dC, dI) vwCl (WR a k h0 (fT vi 0 0) vj vF vG) H := hP
      have hD := fz_sd hP (hD) rfl
      refine lv_i2l hx hb dX12_listing_27 rfl ?_
      refine lv_lmul hx hb dX12_listing_28 ?_
      refine lv_lstore_n hx hb dX12_listing_29 rfl hl (by decide) rfl (fun ls (hl : lv_has ls _ ([(1, .long (al * (r24).toInt64)), (0, .ref h0), (3, .int (nI h5))])) => ?_)
      refine lv_iinc (v := (nI (h5 + 1))) hx hb dX12_listing_30 hl (k := 2) rfl (nI_add h5 1) (by decide) rfl (fun ls (hl : lv_has ls _ ([(3, .int (nI (h5 + 1))), (1, .long (al * (r24).toInt64)), (0, .ref h0)])) => ?_)
      refine lv_goto (tgt := 9) hx hb dX12_listing_33 (by decide) ?_
      have hl : lv_has _ _ ([(0, .ref h0), (1, .long (al * (r24).toInt64)), (3, .int (nI (h5 + 1)))]) := lv_sub hl [2, 1, 0] rfl
      exact ih9 (h5 + 1) (al * (r24).toInt64) _ _ _ (by omega) (by omega) hP hD hS hl
theorem dX12_listed_0 : decode cX12_listed 0 = .ok (.aload_n 0, 1) := dk_42 (by decide +kernel)
theorem dX12_listed_1 : decode cX12_listed 1 = .ok (.iconst 0, 1) := dk_3 (by decide +kernel)
theorem dX12_listed_2 : decode cX12_listed 2 = .ok (.putfield 348, 3) := dk_181 (by decide +kernel)
theorem dX12_listed_5 : decode cX12_listed 5 = .ok (.aload_n 0, 1) := dk_42 (by decide +kernel)
theorem dX12_listed_6 : decode cX12_listed 6 = .ok (.iload_n 2, 1) := dk_28 (by decide +kernel)
theorem dX12_listed_7 : decode cX12_listed 7 = .ok (.invokevirtual 984, 3) := dk_182 (by decide +kernel)
theorem dX12_listed_10 : decode cX12_listed 10 = .ok (.ifCond .eq 15, 3) := dk_153 (by decide +kernel)
theorem dX12_listed_13 : decode cX12_listed 13 = .ok (.iload_n 1, 1) := dk_27 (by decide +kernel)
theorem dX12_listed_14 : decode cX12_listed 14 = .ok (.ifCond .lt 11, 3) := dk_155 (by decide +kernel)
theorem dX12_listed_17 : decode cX12_listed 17 = .ok (.iload_n 1, 1) := dk_27 (by decide +kernel)
theorem dX12_listed_18 : decode cX12_listed 18 = .ok (.aload_n 0, 1) := dk_42 (by decide +kernel)
theorem dX12_listed_19 : decode cX12_listed 19 = .ok (.invokevirtual 1048, 3) := dk_182 (by decide +kernel)
theorem dX12_listed_22 : decode cX12_listed 22 = .ok (.if_icmp .lt 7, 3) := dk_161 (by decide +kernel)
theorem dX12_listed_25 : decode cX12_listed 25 = .ok (.iconst (-1), 1) := dk_2 (by decide +kernel)
theorem dX12_listed_26 : decode cX12_listed 26 = .ok (.goto 14, 3) := dk_167 (by decide +kernel)
theorem dX12_listed_29 : decode cX12_listed 29 = .ok (.aload_n 0, 1) := dk_42 (by decide +kernel)
theorem dX12_listed_30 : decode cX12_listed 30 = .ok (.getfield 297, 3) := dk_180 (by decide +kernel)
theorem dX12_listed_33 : decode cX12_listed 33 = .ok (.bipush 10, 2) := dk_16 (by decide +kernel)
theorem dX12_listed_35 : decode cX12_listed 35 = .ok (.iload_n 1, 1) := dk_27 (by decide +kernel)
theorem dX12_listed_36 : decode cX12_listed 36 = .ok (.imul, 1) := dk_104 (by decide +kernel)
theorem dX12_listed_37 : decode cX12_listed 37 = .ok (.iload_n 2, 1) := dk_28 (by decide +kernel)
theorem dX12_listed_38 : decode cX12_listed 38 = .ok (.iadd, 1) := dk_96 (by decide +kernel)
theorem dX12_listed_39 : decode cX12_listed 39 = .ok (.iaload, 1) := dk_46 (by decide +kernel)
theorem dX12_listed_40 : decode cX12_listed 40 = .ok (.ireturn, 1) := dk_172 (by decide +kernel)
def wsRX12_listed : List Cond := .code yX12_listed cX12_listed 3 (some .int) :: ([.fieldLink RX12 348 "OptimaWorksModel" "thrown" "I", .fieldLink RX12 297 "OptimaWorksModel" "listedRow" "[I"] ++ wsX120 ++ (wsV RX12 984 RX12 yX12_isHolder wsRX12_isHolder) ++ (wsV RX12 1048 RX12 yX12_listing wsRX12_listing))
theorem iwsRX12_listed_in12 : ∀ w ∈ wsX120, w ∈ wsRX12_listed := fun _ h => List.mem_cons_of_mem _ (List.mem_append_left _ (List.mem_append_left _ (List.mem_append_right _ h)))
theorem gwsRX12_listed_0 : GoodIn wsRX12_listed (wsV RX12 984 RX12 yX12_isHolder wsRX12_isHolder) := goodIn_sub (fun _ h => List.mem_cons_of_mem _ (List.mem_append_left _ (List.mem_append_right _ h))) (gdV (by decide +kernel) gdwsRX12_isHolder)
theorem gwsRX12_listed_1 : GoodIn wsRX12_listed (wsV RX12 1048 RX12 yX12_listing wsRX12_listing) := goodIn_sub (fun _ h => List.mem_cons_of_mem _ (List.mem_append_right _ h)) (gdV (by decide +kernel) gdwsRX12_listing)
theorem gdwsRX12_listed : wsRX12_listed.all goodWord = true := gdC rfl (gdA (gdA (gdA (by decide +kernel : ([.fieldLink RX12 348 "OptimaWorksModel" "thrown" "I", .fieldLink RX12 297 "OptimaWorksModel" "listedRow" "[I"] : List Cond).all goodWord = true) gdwsX120) (gdV (by decide +kernel) gdwsRX12_isHolder)) (gdV (by decide +kernel) gdwsRX12_listing))
set_option maxHeartbeats 4000000 in
set_option maxRecDepth 100000 in
/-- listed(k, h) -/
theorem r_X12_listed (l : Launch) (dC : Nat → ClassId) (dI : Nat → Nat → Nat) (a : Nat → Nat) (k : Nat → ClassId) (h0 : Nat) (vi : Nat → Int32) (vj : Nat → Int64) (vF : Nat → Nat → Int32) (vG : Nat → Nat → Int64) (kI : Int32) (hI : Int32) (hn : Nat) (ru : Nat) (hhn : vi 128 = nI hn) (hhn10 : hn ≤ 10) (hru : vi 129 = nI ru) (hru12 : ru ≤ 12) (hRu : RuO (vF 80) (vF 81) (vF 82) (vF 83) hn ru) (hDo : DoO (vF 78) hn) (hLm : LmO (vi 145)) (sz : Nat) : Met l yX12_listed wsRX12_listed ({ frames := 7, cells := 0, slots := 0, locals := 165 }) (va_Pc [.ref h0, .int kI, .int hI] (fun U => U.heap.size = sz ∧ va_P (dC, dI) vwCl (WR a k h0 vi vj vF vG) U.heap ∧ va_K (dC, dI) vwCl (tX12 k) U ∧ va_D (fun _ => True) (WR a k h0 vi vj vF vG))) (va_Qi (fun (r : Int32) (u : (Int32) × (Nat → Int32) × (Nat → Int32) × (Nat → Int32) × (Nat → Int32) × (Nat → Int32) × (Nat → Int32)) => (LmO (u.1))) (fun (u : (Int32) × (Nat → Int32) × (Nat → Int32) × (Nat → Int32) × (Nat → Int32) × (Nat → Int32) × (Nat → Int32)) t => va_P (dC, dI) vwCl (WR a k h0 (fT (fT vi 0 0) 145 (u.1)) vj (fT (fT (fT (fT (fT (fT vF 90 (u.2.1)) 91 (u.2.2.1)) 86 (u.2.2.2.1)) 87 (u.2.2.2.2.1)) 88 (u.2.2.2.2.2.1)) 89 (u.2.2.2.2.2.2)) vG) t.heap ∧ va_D (va_A (WR a k h0 vi vj vF vG) sz) (WR a k h0 (fT (fT vi 0 0) 145 (u.1)) vj (fT (fT (fT (fT (fT (fT vF 90 (u.2.1)) 91 (u.2.2.1)) 86 (u.2.2.2.1)) 87 (u.2.2.2.2.1)) 88 (u.2.2.2.2.2.1)) 89 (u.2.2.2.2.2.2)) vG)) (va_A (WR a k h0 vi vj vF vG) sz)) 0 0 (va_A (WR a k h0 vi vj vF vG) sz) := by
  refine Met.ofW (cc := cX12_listed) (maxL := 3) (ret := (some .int)) (by decide) rfl ?_
  intro p e s m args below meth c s₁ B hml hv
  obtain ⟨rfl, hsz, hP, hK, hD0⟩ := hv
  have hx := B.exec
  have hb := B.bytes
  have hr := B.returns
  have hts := atoms_spec (ws := wsRX12_listed) B.pre
  have hown : s.vm.findClass RX12 = some m.cls := findClass_of_methodNamed B.named
  have hlocks := B.notSynchronized
  subst hsz
  have hD := hD0.self (sz := s.heap.size)
  generalize hAe : va_A (WR a k h0 vi vj vF vG) s.heap.size = A at hD ⊢
  have hA : ∀ q : Nat, s.heap.size ≤ q → A q := fun q h => by rw [← hAe]; exact Or.inr h
  have hS : va_S A s.heap s.heap [] := va_S.rf
  have hl := lv_entry ([.ref h0, .int kI, .int hI]) (n := 3) (Nat.le_of_ble_eq_true rfl)
  rw [lg_entry_eq]
  generalize (lg_sl ([.ref h0, .int kI, .int hI]) ++ List.replicate (3 - (lg_sl ([.ref h0, .int kI, .int hI])).length) Slot.unset).toArray = ls at hl ⊢
  have hl : lv_has ls 3 [(0, .ref h0), (1, .int kI), (2, .int hI)] := hl
  refine lv_aload_n hx hb dX12_listed_0 rfl (lv_at hl 0 rfl) ?_
  refine lv_iconst (v := 0) hx hb dX12_listed_1 (by decide) ?_
  refine va_put (D := (dC, dI)) (ci := 12) (v := .int 0) (ty := .int) (C := RX12) (T := TX12) (N := 163) (fs := fM (vS a vi vj)) hx hb hts iwsRX12_listed_in12 tyX12 tyX12_ok nmX12 hown hK hP hD hS 0 rfl rfl 0 (by decide) (hts (.fieldLink RX12 348 "OptimaWorksModel" "thrown" "I") (by decide +kernel)) (fun _ h9 => h9) rfl (by decide +kernel) rfl rfl (Nat.le_of_ble_eq_true rfl) dX12_listed_2 (fun H locs hP hD hS => ?_)
  have hP : va_P (dC, dI) vwCl (WR a k h0 (fT vi 0 0) vj vF vG) H := fz_w (WR_i 0 _ rfl) hP
  have hD : va_D A (WR a k h0 (fT vi 0 0) vj vF vG) := fz_wD (WR_i 0 _ rfl) hD
  refine lv_aload_n hx hb dX12_listed_5 rfl (lv_at hl 0 rfl) ?_
  refine lv_iload_n hx hb dX12_listed_6 rfl (lv_at hl 2 rfl) ?_
  have hFc := allFree hD hS hA
  refine va_calli (va_runV (As := [.int hI]) (rest := []) ⟨hx, hb, hml, hown, hts⟩ (r_X12_isHolder l dC dI a k h0 (fT vi 0 0) vj vF vG hI hn hhn (by first | with_reducible assumption | decide | omega | rfl | assumption) H.size) (cwV 1 hts gwsRX12_listed_0 rfl rfl rfl hd_yX12_isHolder_RX12 (by decide +kernel)) (fz_pre (va_recv hK hP (ci := 12) (q0 := 0) rfl rfl) hP hK hD) rfl rfl hl.1 rfl (lv_room (Nat.le_of_ble_eq_true rfl)) dX12_listed_7 (by decide +kernel)) hS (fun q _ h => hFc q h) hFc (fun r7 u t9_ H locs ht hvm hw9 hB9 hz1 hk1 hS => ?_)
  have hP : va_P (dC, dI) vwCl (WR a k h0 (fT vi 0 0) vj vF vG) H := fz_P ht hB9.1
  have hD := fz_sd hP (hB9.2.weaken (fun _ q _ h => hFc q.1 h)) rfl
  rcases hw9 with ⟨rfl, f7_0, f7_1⟩ | ⟨rfl, f7_0⟩
  · refine lv_if_eq (tgt := 25) hx hb dX12_listed_10 (by decide) (fun c9 => absurd c9 (by decide)) (fun _ => ?_)
    obtain ⟨x5, hx5, ex5⟩ := f7_0
    subst ex5
    refine lv_iload_n hx hb dX12_listed_13 rfl (lv_at hl 1 rfl) ?_
    refine lv_if_lt (tgt := 25) hx hb dX12_listed_14 (by decide) (fun c_14 => ?_) (fun c_14 => ?_)
    · have t_14 : (kI).toInt < 0 := toI_lt c_14 rfl (by decide)
      refine lv_iconst (v := (-1)) hx hb dX12_listed_25 (by decide) ?_
      refine lv_goto (tgt := 40) hx hb dX12_listed_26 (by decide) ?_
      refine W.widen (k := 0) (n := 0) (by decide +kernel) (by decide +kernel) ?_
      have e9 : fT (fT vi 0 0) 145 (vi 145) = fT vi 0 0 := fT_id _ _ (fT_ne _ _ (Nat.ne_of_beq_eq_false rfl))
      have hP := wr_Pi e9 hP
      have hD := wr_Di e9 hD
      clear e9
      have e9 : fT (fT (fT (fT (fT (fT vF 90 (vF 90)) 91 (vF 91)) 86 (vF 86)) 87 (vF 87)) 88 (vF 88)) 89 (vF 89) = vF := Eq.trans (mv_5 rfl) (Eq.trans (id_5 rfl) (Eq.trans (mv_4 rfl) (Eq.trans (id_4 rfl) (Eq.trans (mv_3 rfl) (Eq.trans (id_3 rfl) (Eq.trans (mv_2 rfl) (Eq.trans (id_2 rfl) (Eq.trans (mv_1 rfl) (Eq.trans (id_1 rfl) (id_0 rfl))))))))))
      have hP := wr_PF e9 hP
      have hD := wr_DF e9 hD
      clear e9
      exact W.iret (v := (-1)) hx hb hr (fun t9_ ht hW => ⟨⟨(-1), ((vi 145), (vF 90), (vF 91), (vF 86), (vF 87), (vF 88), (vF 89)), rfl, by (try dsimp only); exact hLm, by rw [ht]; exact hP, hD⟩, hS.F ht⟩) hS.2.2 dX12_listed_40
    · have t_14 : ¬ (kI).toInt < 0 := toI_nlt c_14 rfl (by decide)
      refine lv_iload_n hx hb dX12_listed_17 rfl (lv_at hl 1 rfl) ?_
      refine lv_aload_n hx hb dX12_listed_18 rfl (lv_at hl 0 rfl) ?_
      have hFc := allFree hD hS hA
      refine va_calli (va_runV (As := []) (rest := [.int kI]) ⟨hx, hb, hml, hown, hts⟩ (r_X12_listing l dC dI a k h0 (fT vi 0 0) vj vF vG hn ru hhn (by first | with_reducible assumption | decide | omega | rfl | assumption) hru (by first | with_reducible assumption | decide | omega | rfl | assumption) (by first | with_reducible assumption | decide | omega | rfl | assumption) (by first | with_reducible assumption | decide | omega | rfl | assumption) (by first | with_reducible assumption | decide | omega | rfl | assumption) H.size) (cwV 0 hts gwsRX12_listed_1 rfl rfl rfl hd_yX12_listing_RX12 (by decide +kernel)) (fz_pre (va_recv hK hP (ci := 12) (q0 := 0) rfl rfl) hP hK hD) rfl rfl hl.1 rfl (lv_room (Nat.le_of_ble_eq_true rfl)) dX12_listed_19 (by decide +kernel)) hS (fun q _ h => hFc q h) hFc (fun r19 u t9_ H locs ht hvm hw9 hB9 hz1 hk1 hS => ?_)
      revert u hw9 hB9
      refine fz_p7 ?_
      intro lm19 g9019 g9119 g8619 g8719 g8819 g8919 hw9 hB9
      try dsimp only at hw9 hB9
      have e9i : fT (fT vi 0 0) 145 lm19 = fT (fT (fT vi 0 0) 0 0) 145 lm19 := (congrArg (fun g9 => fT g9 145 lm19) (fT_sm _ _ _ _)).symm
      have hP := wr_Pi e9i (fz_P ht hB9.1)
      have hD := wr_Di e9i (hB9.2.weaken (fun _ q _ h => hFc q.1 h))
      clear e9i
      revert hw9
      refine fz_a2 ?_
      intro f19_0 f19_1
      refine lv_icmp_lt (tgt := 29) hx hb dX12_listed_22 (by decide) (fun c_22 => ?_) (fun c_22 => ?_)
      · have t_22 : (kI).toInt < (r19).toInt := toI_lt c_22 rfl rfl
        have hk5 : (kI).toInt < 5000 := by rcases f19_1 with h9 | h9; (rw [h9] at t_22; (have h8 : ((-1 : Int32)).toInt = -1 := by decide); omega); (rcases f19_0 with h8 | ⟨l5, h7, h6⟩; (rw [h9, h8] at t_22; (have h5 : ((-1 : Int32)).toInt = -1 := by decide); omega); (rw [h9, h6, nI_toInt (by omega)] at t_22; omega))
        obtain ⟨kn, h_kn, rfl⟩ := of_toInt (x := kI) (k := 5000) (by omega) (by omega)
        have e_kn : (nI kn).toInt = (kn : Int) := nI_toInt (by omega)
        refine lv_aload_n hx hb dX12_listed_29 rfl (lv_at hl 0 rfl) ?_
        refine va_get (D := (dC, dI)) (ci := 12) (v := .ref (a 91)) (C := RX12) (T := TX12) (N := 163) (fs := fM (vS a (fT (fT vi 0 0) 145 lm19) vj)) hx hb hts iwsRX12_listed_in12 hown hK hP 0 rfl rfl 144 (by decide) (hts (.fieldLink RX12 297 "OptimaWorksModel" "listedRow" "[I") (by decide +kernel)) (fun _ h9 => h9) rfl dX12_listed_30 ?_
        refine lv_bipush (v := 10) hx hb dX12_listed_33 (by decide) ?_
        refine lv_iload_n hx hb dX12_listed_35 rfl (lv_at hl 1 rfl) ?_
        refine lv_imul hx hb dX12_listed_36 ?_
        refine lv_topi (fun y1 hy1 => ?_)
        obtain rfl : (nI (10 * kn)) = y1 := (hy1.trans (pk_mul 10 kn)).symm
        refine lv_iload_n hx hb dX12_listed_37 rfl (lv_at hl 2 rfl) ?_
        refine lv_iadd hx hb dX12_listed_38 ?_
        refine lv_topi (fun y2 hy2 => ?_)
        obtain rfl : (nI ((10 * kn) + x5)) = y2 := (hy2.trans (nI_add (10 * kn) x5)).symm
        refine va_iald (cA := k 91) (n := 50000) (f := g9119) hx hb hK hP 92 91 (WR_get 91 (by decide)) (TR_get 91 (by decide)) (vp_in_nI (show ((10 * kn) + x5) < 50000 by omega) (by omega)) dX12_listed_39 ?_
        refine lv_topi (fun y3 hy3 => ?_)
        obtain rfl : (g9119 ((10 * kn) + x5)) = y3 := (hy3.trans (by rw [nI_clamp (by omega)])).symm
        refine W.widen (k := 0) (n := 0) (by decide +kernel) (by decide +kernel) ?_
        exact W.iret (v := (g9119 ((10 * kn) + x5))) hx hb hr (fun t9_ ht hW => ⟨⟨(g9119 ((10 * kn) + x5)), (lm19, g9019, g9119, g8619, g8719, g8819, g8919), rfl, by (try dsimp only); exact f19_0, by rw [ht]; exact hP, hD⟩, hS.F ht⟩) hS.2.2 dX12_listed_40
      · have t_22 : ¬ (kI).toInt < (r19).toInt := toI_nlt c_22 rfl rfl
        refine lv_iconst (v := (-1)) hx hb dX12_listed_25 (by decide) ?_
        refine lv_goto (tgt := 40) hx hb dX12_listed_26 (by decide) ?_
        refine W.widen (k := 0) (n := 0) (by decide +kernel) (by decide +kernel) ?_
        exact W.iret (v := (-1)) hx hb hr (fun t9_ ht hW => ⟨⟨(-1), (lm19, g9019, g9119, g8619, g8719, g8819, g8919), rfl, by (try dsimp only); exact f19_0, by rw [ht]; exact hP, hD⟩, hS.F ht⟩) hS.2.2 dX12_listed_40
  · refine lv_if_eq (tgt := 25) hx hb dX12_listed_10 (by decide) (fun _ => ?_) (fun c9 => absurd (by decide) c9)
    refine lv_iconst (v := (-1)) hx hb dX12_listed_25 (by decide) ?_
    refine lv_goto (tgt := 40) hx hb dX12_listed_26 (by decide) ?_
    refine W.widen (k := 0) (n := 0) (by decide +kernel) (by decide +kernel) ?_
    have e9 : fT (fT vi 0 0) 145 (vi 145) = fT vi 0 0 := fT_id _ _ (fT_ne _ _ (Nat.ne_of_beq_eq_false rfl))
    have hP := wr_Pi e9 hP
    have hD := wr_Di e9 hD
    clear e9
    have e9 : fT (fT (fT (fT (fT (fT vF 90 (vF 90)) 91 (vF 91)) 86 (vF 86)) 87 (vF 87)) 88 (vF 88)) 89 (vF 89) = vF := Eq.trans (mv_5 rfl) (Eq.trans (id_5 rfl) (Eq.trans (mv_4 rfl) (Eq.trans (id_4 rfl) (Eq.trans (mv_3 rfl) (Eq.trans (id_3 rfl) (Eq.trans (mv_2 rfl) (Eq.trans (id_2 rfl) (Eq.trans (mv_1 rfl) (Eq.trans (id_1 rfl) (id_0 rfl))))))))))
    have hP := wr_PF e9 hP
    have hD := wr_DF e9 hD
    clear e9
    exact W.iret (v := (-1)) hx hb hr (fun t9_ ht hW => ⟨⟨(-1), ((vi 145), (vF 90), (vF 91), (vF 86), (vF 87), (vF 88), (vF 89)), rfl, by (try dsimp only); exact hLm, by rw [ht]; exact hP, hD⟩, hS.F ht⟩) hS.2.2 dX12_listed_40
theorem dX12_isPlace_0 : decode cX12_isPlace 0 = .ok (.iload_n 0, 1) := dk_26 (by decide +kernel)
theorem dX12_isPlace_1 : decode cX12_isPlace 1 = .ok (.ifCond .lt 13, 3) := dk_155 (by decide +kernel)
theorem dX12_isPlace_4 : decode cX12_isPlace 4 = .ok (.iload_n 0, 1) := dk_26 (by decide +kernel)
theorem dX12_isPlace_5 : decode cX12_isPlace 5 = .ok (.bipush 12, 2) := dk_16 (by decide +kernel)
theorem dX12_isPlace_7 : decode cX12_isPlace 7 = .ok (.if_icmp .ge 7, 3) := dk_162 (by decide +kernel)
theorem dX12_isPlace_10 : decode cX12_isPlace 10 = .ok (.iconst 1, 1) := dk_4 (by decide +kernel)
theorem dX12_isPlace_11 : decode cX12_isPlace 11 = .ok (.goto 4, 3) := dk_167 (by decide +kernel)
theorem dX12_isPlace_14 : decode cX12_isPlace 14 = .ok (.iconst 0, 1) := dk_3 (by decide +kernel)
theorem dX12_isPlace_15 : decode cX12_isPlace 15 = .ok (.ireturn, 1) := dk_172 (by decide +kernel)
def wsRX12_isPlace : List Cond := .code yX12_isPlace cX12_isPlace 1 (some .boolean) :: ([])
theorem gdwsRX12_isPlace : wsRX12_isPlace.all goodWord = true := gdC rfl (by decide +kernel : ([] : List Cond).all goodWord = true)
set_option maxHeartbeats 4000000 in
set_option maxRecDepth 100000 in
/-- isPlace(n) -/
theorem r_X12_isPlace (l : Launch) (dC : Nat → ClassId) (dI : Nat → Nat → Nat) (nv : Int32) (sz : Nat) : Met l yX12_isPlace wsRX12_isPlace ({ frames := 0, cells := 0, slots := 0, locals := 0 }) (va_Pc [.int nv] (fun U => U.heap.size = sz ∧ va_P (dC, dI) vwCl [] U.heap ∧ va_K (dC, dI) vwCl [] U ∧ va_D (fun _ => True) [])) (va_Qi (fun (r : Int32) (u : Unit) => (r = 1 ∧ (0 ≤ (nv).toInt ∧ (nv).toInt < 12)) ∨ (r = 0 ∧ (¬ (0 ≤ (nv).toInt ∧ (nv).toInt < 12)))) (fun (u : Unit) t => True) (va_A [] sz)) 0 0 (va_A [] sz) := by
  refine Met.ofW (cc := cX12_isPlace) (maxL := 1) (ret := (some .boolean)) (by decide) rfl ?_
  intro p e s m args below meth c s₁ B hml hv
  obtain ⟨rfl, hsz, hP, hK, hD0⟩ := hv
  have hx := B.exec
  have hb := B.bytes
  have hr := B.returns
  have hts := atoms_spec (ws := wsRX12_isPlace) B.pre
  have hown : s.vm.findClass RX12 = some m.cls := findClass_of_methodNamed B.named
  have hlocks := B.notSynchronized
  subst hsz
  have hD := hD0.self (sz := s.heap.size)
  generalize hAe : va_A [] s.heap.size = A at hD ⊢
  have hA : ∀ q : Nat, s.heap.size ≤ q → A q := fun q h => by rw [← hAe]; exact Or.inr h
  have hS : va_S A s.heap s.heap [] := va_S.rf
  have hl := lv_entry ([.int nv]) (n := 1) (Nat.le_of_ble_eq_true rfl)
  rw [lg_entry_eq]
  generalize (lg_sl ([.int nv]) ++ List.replicate (1 - (lg_sl ([.int nv])).length) Slot.unset).toArray = ls at hl ⊢
  have hl : lv_has ls 1 [(0, .int nv)] := hl
  refine lv_iload_n hx hb dX12_isPlace_0 rfl (lv_at hl 0 rfl) ?_
  refine lv_if_lt (tgt := 14) hx hb dX12_isPlace_1 (by decide) (fun c_1 => ?_) (fun c_1 => ?_)
  · have t_1 : (nv).toInt < 0 := toI_lt c_1 rfl (by decide)
    refine lv_iconst (v := 0) hx hb dX12_isPlace_14 (by decide) ?_
    refine W.widen (k := 0) (n := 0) (by decide +kernel) (by decide +kernel) ?_
    exact W.zret (v := 0) hx hb hr rfl (fun t9_ ht hW => ⟨⟨0, (), rfl, by (try dsimp only); exact Or.inr ⟨rfl, by omega⟩, trivial⟩, hS.F ht⟩) hS.2.2 dX12_isPlace_15
  · have t_1 : ¬ (nv).toInt < 0 := toI_nlt c_1 rfl (by decide)
    refine lv_iload_n hx hb dX12_isPlace_4 rfl (lv_at hl 0 rfl) ?_
    refine lv_bipush (v := 12) hx hb dX12_isPlace_5 (by decide) ?_
    refine lv_icmp_ge (tgt := 14) hx hb dX12_isPlace_7 (by decide) (fun c_7 => ?_) (fun c_7 => ?_)
    · have t_7 : (nv).toInt ≥ 12 := toI_ge c_7 rfl (by decide)
      refine lv_iconst (v := 0) hx hb dX12_isPlace_14 (by decide) ?_
      refine W.widen (k := 0) (n := 0) (by decide +kernel) (by decide +kernel) ?_
      exact W.zret (v := 0) hx hb hr rfl (fun t9_ ht hW => ⟨⟨0, (), rfl, by (try dsimp only); exact Or.inr ⟨rfl, by omega⟩, trivial⟩, hS.F ht⟩) hS.2.2 dX12_isPlace_15
    · have t_7 : ¬ (nv).toInt ≥ 12 := toI_nge c_7 rfl (by decide)
      refine lv_iconst (v := 1) hx hb dX12_isPlace_10 (by decide) ?_
      refine lv_goto (tgt := 15) hx hb dX12_isPlace_11 (by decide) ?_
      refine W.widen (k := 0) (n := 0) (by decide +kernel) (by decide +kernel) ?_
      exact W.zret (v := 1) hx hb hr rfl (fun t9_ ht hW => ⟨⟨1, (), rfl, by (try dsimp only); exact Or.inl ⟨rfl, by omega⟩, trivial⟩, hS.F ht⟩) hS.2.2 dX12_isPlace_15
end
section
/-- arcs: two places, room and price within a thousand -/
def ArO (f95 f96 f97 f98 : Nat → Int32) (ar : Nat) : Prop := ∀ a, a < ar → ∃ x y, x < 12 ∧ y < 12 ∧ x ≠ y ∧ f95 a = nI x ∧ f96 a = nI y ∧ (0 ≤ (f97 a).toInt ∧ (f97 a).toInt ≤ 1000) ∧ 0 ≤ (f98 a).toInt ∧ (f98 a).toInt ≤ 1000
theorem ArO.more {f95 f96 f97 f98 g95 g96 g97 g98 : Nat → Int32} {ar : Nat} (h : ArO f95 f96 f97 f98 ar) (e0 : ∀ r, r < ar → g95 r = f95 r ∧ g96 r = f96 r ∧ g97 r = f97 r ∧ g98 r = f98 r) (h1 : ∃ x y, x < 12 ∧ y < 12 ∧ x ≠ y ∧ g95 ar = nI x ∧ g96 ar = nI y ∧ (0 ≤ (g97 ar).toInt ∧ (g97 ar).toInt ≤ 1000) ∧ 0 ≤ (g98 ar).toInt ∧ (g98 ar).toInt ≤ 1000) : ArO g95 g96 g97 g98 (ar + 1) := fun r hr => by
  by_cases e : r = ar
  · subst e; exact h1
  · obtain ⟨a, b, c, d⟩ := e0 r (by omega)
    rw [a, b, c, d]; exact h r (by omega)
/-- how many of the first n are not x -/
def nvx (x : Int32) (f : Nat → Int32) : Nat → Nat
  | 0 => 0
  | n + 1 => nvx x f n + (if f n = x then 0 else 1)
theorem nvx_le (x : Int32) (f : Nat → Int32) : ∀ n, nvx x f n ≤ n := by
  intro n
  induction n with
  | zero => exact Nat.le_refl _
  | succ n ih => simp only [nvx]; split <;> omega
theorem nvx_congr {x : Int32} {f g : Nat → Int32} : ∀ n, (∀ w, w < n → g w = f w) → nvx x g n = nvx x f n := by
  intro n
  induction n with
  | zero => intro _; rfl
  | succ n ih => intro h; simp only [nvx]; rw [ih (fun w hw => h w (by omega)), h n (by omega)]
theorem nvx_up {x : Int32} {f g : Nat → Int32} {v : Nat} (hv : f v = x) (h2 : g v ≠ x) (e : ∀ w, w ≠ v → g w = f w) : ∀ n, v < n → nvx x g n = nvx x f n + 1 := by
  intro n
  induction n with
  | zero => intro h; omega
  | succ n ih =>
    intro h
    simp only [nvx]
    by_cases e9 : v = n
    · subst e9; rw [nvx_congr v (fun w hw => e w (by omega)), if_neg h2, if_pos hv]
    · rw [ih (by omega), e n (by omega)]; omega
theorem nvx_same {x : Int32} {f g : Nat → Int32} {v : Nat} (hv : f v ≠ x) (h2 : g v ≠ x) (e : ∀ w, w ≠ v → g w = f w) : ∀ n, nvx x g n = nvx x f n := by
  intro n
  induction n with
  | zero => rfl
  | succ n ih =>
    simp only [nvx]
    by_cases e9 : v = n
    · subst e9; rw [ih, if_neg h2, if_neg hv]
    · rw [ih, e n (by omega)]
theorem nvx_pos {x : Int32} {f : Nat → Int32} {v : Nat} (hv : f v ≠ x) : ∀ n, v < n → 1 ≤ nvx x f n := by
  intro n
  induction n with
  | zero => intro h; omega
  | succ n ih =>
    intro h
    simp only [nvx]
    by_cases e9 : v = n
    · subst e9; rw [if_neg hv]; omega
    · have := ih (by omega); omega
/-- sums of prices -/
def sPr (f : Nat → Int32) : Nat := sumN 12 (fun v => (f v).toInt.toNat)
theorem sPr_dec {f g : Nat → Int32} {v : Nat} (hv : v < 12) (e : ∀ q, q ≠ v → g q = f q) (h0 : 0 ≤ (g v).toInt) (h1 : (g v).toInt < (f v).toInt) : sPr g < sPr f :=
  sum_dec (f := fun v => (f v).toInt.toNat) (g := fun v => (g v).toInt.toNat) (h := v) (fun q hq => by show (g q).toInt.toNat = (f q).toInt.toNat; rw [e q hq]) (by show (g v).toInt.toNat < (f v).toInt.toNat; omega) 12 hv
/-- ways to the end: what is known of far -/
def FaO (f95 f96 f98 : Nat → Int32) (ar tN : Nat) (fa : Nat → Int32) : Prop := fa tN = 0 ∧ ∀ v, v < 12 → fa v = 536870912 ∨ (0 ≤ (fa v).toInt ∧ (fa v).toInt ≤ 64001 * ((nvx 536870912 fa 12 - 1 : Nat) : Int) ∧ (v = tN ∨ ∃ a y, a < ar ∧ y < 12 ∧ f95 a = nI v ∧ f96 a = nI y ∧ fa y ≠ 536870912 ∧ (fa y).toInt + 64 * (f98 a).toInt + 1 ≤ (fa v).toInt))
theorem FaO.bd {f95 f96 f98 : Nat → Int32} {ar tN : Nat} {fa : Nat → Int32} (h : FaO f95 f96 f98 ar tN fa) {v : Nat} (hv : v < 12) : 0 ≤ (fa v).toInt ∧ (fa v).toInt ≤ 536870912 ∧ (fa v ≠ 536870912 → (fa v).toInt ≤ 64001 * 11) := by
  have h0 := nvx_le 536870912 fa 12
  rcases h.2 v hv with h1 | ⟨h1, h2, _⟩
  · rw [h1]; exact ⟨by decide, by decide, fun h9 => absurd rfl h9⟩
  · have h3 : ((nvx 536870912 fa 12 - 1 : Nat) : Int) ≤ 11 := by omega
    exact ⟨h1, by omega, fun _ => by omega⟩
theorem FaO.relax {f95 f96 f98 : Nat → Int32} {ar tN : Nat} {fa fa2 : Nat → Int32} (h : FaO f95 f96 f98 ar tN fa) {a x y : Nat} (ha : a < ar) (ht : tN < 12) (hx : x < 12) (hy : y < 12) (hxy : x ≠ y) (e5 : f95 a = nI x) (e6 : f96 a = nI y) (hc : 0 ≤ (f98 a).toInt ∧ (f98 a).toInt ≤ 1000) (hfy : fa y ≠ 536870912) (hl : (fa y).toInt + 64 * (f98 a).toInt + 1 < (fa x).toInt) (e1 : (fa2 x).toInt = (fa y).toInt + 64 * (f98 a).toInt + 1) (e2 : ∀ w, w ≠ x → fa2 w = fa w) : FaO f95 f96 f98 ar tN fa2 ∧ sPr fa2 < sPr fa := by
  have by_ := h.bd hy
  have bx := h.bd hx
  have hFm : (536870912 : Int32).toInt = 536870912 := by decide
  have hn1 : fa2 x ≠ 536870912 := fun e9 => by rw [e9, hFm] at e1; have := by_.2.2 hfy; omega
  have hxt : x ≠ tN := fun e9 => by
    rw [e9, h.1] at hl
    have : (0 : Int32).toInt = 0 := by decide
    omega
  have hnn : nvx 536870912 fa 12 ≤ nvx 536870912 fa2 12 ∧ (fa x = 536870912 → nvx 536870912 fa2 12 = nvx 536870912 fa 12 + 1) := by
    by_cases e9 : fa x = 536870912
    · have := nvx_up e9 hn1 e2 12 hx; exact ⟨by omega, fun _ => this⟩
    · have := nvx_same e9 hn1 e2 12; exact ⟨by omega, fun h9 => absurd h9 e9⟩
  have hp1 := nvx_pos hfy 12 hy
  refine ⟨⟨by rw [e2 tN (fun e9 => hxt e9.symm)]; exact h.1, fun v hv => ?_⟩, sPr_dec hx e2 (by omega) (by omega)⟩
  by_cases ev : v = x
  · subst ev
    refine Or.inr ⟨by omega, ?_, Or.inr ⟨a, y, ha, hy, e5, e6, by rw [e2 y (fun e9 => hxy e9.symm)]; exact hfy, by rw [e2 y (fun e9 => hxy e9.symm)]; omega⟩⟩
    by_cases e9 : fa v = 536870912
    · rcases h.2 y hy with h1 | ⟨h1, h2, _⟩
      · exact absurd h1 hfy
      · have h3 := hnn.2 e9
        rw [h3]; omega
    · rcases h.2 v hv with h1 | ⟨h1, h2, _⟩
      · exact absurd h1 e9
      · omega
  · rw [e2 v ev]
    rcases h.2 v hv with h1 | ⟨h1, h2, h3⟩
    · exact Or.inl h1
    · refine Or.inr ⟨h1, by omega, h3.imp id (fun ⟨a', y', k1, k2, k3, k4, k5, k6⟩ => ⟨a', y', k1, k2, k3, k4, ?_, ?_⟩)⟩
      · by_cases e9 : y' = x
        · subst e9; exact hn1
        · rw [e2 y' e9]; exact k5
      · by_cases e9 : y' = x
        · subst e9; omega
        · rw [e2 y' e9]; exact k6
/-- no arc gives a shorter way -/
def FaC (f95 f96 f98 : Nat → Int32) (n : Nat) (fa : Nat → Int32) : Prop := ∀ a x y, a < n → x < 12 → y < 12 → f95 a = nI x → f96 a = nI y → fa y ≠ 536870912 → (fa x).toInt ≤ (fa y).toInt + 64 * (f98 a).toInt + 1
theorem mul64 {x : Int32} (h : 0 ≤ x.toInt ∧ x.toInt ≤ 1000) : (64 * x).toInt = 64 * x.toInt := by
  rw [Int32.toInt_mul, show (64 : Int32).toInt = 64 by decide]
  exact Int.bmod_eq_of_le (by omega) (by omega)
theorem FaO.init {f95 f96 f98 : Nat → Int32} {ar tN : Nat} {fa : Nat → Int32} (ht : tN < 12) (h : ∀ n, n < 12 → fa n = if n = tN then 0 else 536870912) : FaO f95 f96 f98 ar tN fa := by
  refine ⟨by rw [h tN ht, if_pos rfl], fun v hv => ?_⟩
  by_cases e : v = tN
  · refine Or.inr ⟨?_, ?_, Or.inl e⟩ <;> rw [h v hv, if_pos e]
    · decide
    · have : (0 : Int32).toInt = 0 := by decide
      rw [this]; omega
  · exact Or.inl (by rw [h v hv, if_neg e])
end
section
/-! trees: what is joined -/
def btL (x : Int64) (j : Nat) : Bool := x.toBitVec.getLsbD j
theorem btL_or (x y : Int64) (j : Nat) : btL (x ||| y) j = (btL x j || btL y j) := by
  unfold btL; rw [Int64.toBitVec_or, BitVec.getLsbD_or]
theorem btL_0 (j : Nat) : btL 0 j = false := by
  unfold btL; show (0#64).getLsbD j = false; exact BitVec.getLsbD_zero
theorem btL_1all : ((List.range 40).all (fun i => (List.range 64).all (fun j => decide (btL ((1 : Int64) <<< ((nI i).toInt64 &&& 63)) j = decide (j = i))))) = true := by decide +kernel
theorem btL_1 {i j : Nat} (hi : i < 40) (hj : j < 64) : btL ((1 : Int64) <<< ((nI i).toInt64 &&& 63)) j = decide (j = i) :=
  of_decide_eq_true (List.all_eq_true.mp (List.all_eq_true.mp btL_1all i (List.mem_range.mpr hi)) j (List.mem_range.mpr hj))
theorem btL_big {x : Int64} {j : Nat} (h : 64 ≤ j) : btL x j = false := by
  unfold btL; exact BitVec.getLsbD_of_ge _ _ h
theorem btL_set {x : Int64} {i j : Nat} (hi : i < 40) : btL (x ||| ((1 : Int64) <<< ((nI i).toInt64 &&& 63))) j = true ↔ (btL x j = true ∨ j = i) := by
  by_cases hj : j < 64
  · rw [btL_or, btL_1 hi hj, Bool.or_eq_true, decide_eq_true_iff]
  · rw [btL_big (by omega), btL_big (by omega)]
    constructor
    · intro h; exact Or.inl h
    · rintro (h | h)
      · exact h
      · omega
theorem btL_ext {x y : Int64} (h : ∀ j, btL x j = true ↔ btL y j = true) : x = y := by
  apply Int64.toBitVec_inj.mp
  apply BitVec.eq_of_getLsbD_eq
  intro i _
  have h9 := h i
  unfold btL at h9
  cases e1 : x.toBitVec.getLsbD i <;> cases e2 : y.toBitVec.getLsbD i
  · rfl
  · exact absurd (h9.mpr e2) (by rw [e1]; decide)
  · exact absurd (h9.mp e1) (by rw [e2]; decide)
  · rfl
theorem andL1 (y : Int64) : y &&& 1 = lN (y.toBitVec.toNat % 2) := by
  apply Int64.toBitVec_inj.mp
  apply BitVec.eq_of_toNat_eq
  have h2 : (lN (y.toBitVec.toNat % 2)).toBitVec.toNat = y.toBitVec.toNat % 2 := Nat.mod_eq_of_lt (by omega)
  rw [Int64.toBitVec_and, BitVec.toNat_and, h2]
  exact Nat.and_two_pow_sub_one_eq_mod _ 1
theorem btL_and1 (y : Int64) : (btL y 0 = true ∧ (y &&& 1).toInt = 1) ∨ (btL y 0 = false ∧ (y &&& 1).toInt = 0) := by
  have hb : btL y 0 = decide (y.toBitVec.toNat % 2 = 1) := by
    unfold btL; rw [BitVec.getLsbD, Nat.testBit_zero]
  have h2 := Nat.mod_lt y.toBitVec.toNat (show 0 < 2 by decide)
  rw [andL1, hb, pk_lT (by omega)]
  by_cases e : y.toBitVec.toNat % 2 = 1
  · left; simp [e]
  · right; simp [e]; omega
theorem btL_shr {x : Int64} {k : Nat} (hk : k < 64) : btL (x >>> ((nI k).toInt64 &&& 63)) 0 = btL x k := by
  unfold btL
  have h3 : (BitVec.ofNat 64 k).toNat = k := Nat.mod_eq_of_lt (by omega)
  rw [Int64.toBitVec_shiftRight, BitVec.sshiftRight', sm64 k hk, h3, BitVec.getLsbD_sshiftRight]
  simp [hk]
/-- an arc's nodes and cost -/
def tFr (d : NtD) (b : Nat) : Nat := (d.2.1 b).toInt.toNat
def tTo (d : NtD) (b : Nat) : Nat := (d.2.2.1 b).toInt.toNat
def tCo (d : NtD) (b : Nat) : Int := (d.2.2.2.2 b).toInt
/-- what the arcs are -/
def tVal (d : NtD) : Prop := ∀ b : Nat, (b : Int) < d.1 → tFr d b < 12 ∧ tTo d b < 12 ∧ 0 ≤ tCo d b ∧ tCo d b ≤ 1000
/-- b is an arc that comes before a -/
def tBef (d : NtD) (a b : Nat) : Prop := (b : Int) < d.1 ∧ (tCo d b < tCo d a ∨ (tCo d b = tCo d a ∧ b < a))
/-- joined by the arcs of P -/
def tCon (d : NtD) (P : Nat → Prop) (i j : Nat) : Prop := ∀ R : Nat → Nat → Prop, (∀ x, R x x) → (∀ x y, R x y → R y x) → (∀ x y z, R x y → R y z → R x z) → (∀ b, P b → R (tFr d b) (tTo d b)) → R i j
theorem tCon.mono {d : NtD} {P Q : Nat → Prop} {i j : Nat} (h : tCon d P i j) (hs : ∀ b, P b → Q b) : tCon d Q i j := fun R r s t c => h R r s t (fun b hb => c b (hs b hb))
theorem tCon.symm {d : NtD} {P : Nat → Prop} {i j : Nat} (h : tCon d P i j) : tCon d P j i := fun R r s t c => s _ _ (h R r s t c)
theorem tCon.trans {d : NtD} {P : Nat → Prop} {i j k : Nat} (h : tCon d P i j) (h2 : tCon d P j k) : tCon d P i k := fun R r s t c => t _ _ _ (h R r s t c) (h2 R r s t c)
theorem tCon.arc {d : NtD} {P : Nat → Prop} {b : Nat} (h : P b) : tCon d P (tFr d b) (tTo d b) := fun _ _ _ _ c => c b h
/-- the arc is taken -/
def tIn (d : NtD) (a : Nat) : Prop := ¬ tCon d (tBef d a) (tFr d a) (tTo d a)
/-- the tree's arcs as bits -/
def tAll (d : NtD) (x : Int64) : Prop := ∀ j, btL x j = true ↔ ((j : Int) < d.1 ∧ tIn d j)
theorem tAll.eq {d : NtD} {x y : Int64} (h : tAll d x) (h2 : tAll d y) : x = y := btL_ext (fun j => (h j).trans (h2 j).symm)
/-- labels tell what is joined -/
def tLab (d : NtD) (P : Nat → Prop) (g : Nat → Int32) : Prop := ∀ i j, i < 12 → j < 12 → ((g i).toInt = (g j).toInt ↔ tCon d P i j)
theorem tLab.start {d : NtD} {g : Nat → Int32} (h : ∀ i, i < 12 → (g i).toInt = (i : Int)) : tLab d (fun _ => False) g := by
  intro i j hi hj
  rw [h i hi, h j hj]
  constructor
  · intro e
    have : i = j := by omega
    subst this
    exact fun _ r _ _ _ => r i
  · intro c
    have : i = j := c (fun x y => x = y) (fun _ => rfl) (fun _ _ e => e.symm) (fun _ _ _ e f => e.trans f) (fun _ h => h.elim)
    rw [this]
theorem tLab.congr {d : NtD} {P Q : Nat → Prop} {g : Nat → Int32} (h : tLab d P g) (hq : ∀ b, Q b ↔ P b) : tLab d Q g := fun i j hi hj => ⟨fun e => ((h i j hi hj).mp e).mono (fun b hb => (hq b).mpr hb), fun c => (h i j hi hj).mpr (c.mono (fun b hb => (hq b).mp hb))⟩
theorem tLab.skip {d : NtD} {P Q : Nat → Prop} {g : Nat → Int32} {a : Nat} (h : tLab d P g) (hq : ∀ b, Q b ↔ (P b ∨ b = a)) (hn : ∀ b, Q b → tFr d b < 12 ∧ tTo d b < 12) (he : (g (tFr d a)).toInt = (g (tTo d a)).toInt) : tLab d Q g := by
  intro i j hi hj
  constructor
  · intro e
    exact ((h i j hi hj).mp e).mono (fun b hb => (hq b).mpr (Or.inl hb))
  · intro c
    refine c (fun x y => (g x).toInt = (g y).toInt) (fun _ => rfl) (fun _ _ e => e.symm) (fun _ _ _ e f => e.trans f) (fun b hb => ?_)
    rcases (hq b).mp hb with hp | rfl
    · exact (h _ _ (hn b hb).1 (hn b hb).2).mpr (tCon.arc hp)
    · exact he
theorem tLab.join {d : NtD} {P Q : Nat → Prop} {g g' : Nat → Int32} {a : Nat} {gone kept : Int} (h : tLab d P g) (hq : ∀ b, Q b ↔ (P b ∨ b = a)) (hn : ∀ b, Q b → tFr d b < 12 ∧ tTo d b < 12) (hg : ∀ i, i < 12 → (g' i).toInt = if (g i).toInt = gone then kept else (g i).toInt)
    (ho : (gone = (g (tFr d a)).toInt ∧ kept = (g (tTo d a)).toInt) ∨ (gone = (g (tTo d a)).toInt ∧ kept = (g (tFr d a)).toInt)) : tLab d Q g' := by
  have ha : Q a := (hq a).mpr (Or.inr rfl)
  have ha1 := (hn a ha).1
  have ha2 := (hn a ha).2
  have up : ∀ {i j : Nat}, i < 12 → j < 12 → (g i).toInt = (g j).toInt → tCon d Q i j := fun hi hj e => ((h _ _ hi hj).mp e).mono (fun b hb => (hq b).mpr (Or.inl hb))
  have both : ∀ {i j : Nat}, i < 12 → j < 12 → (g i).toInt = gone → (g j).toInt = kept → tCon d Q i j := by
    intro i j hi hj e1 e2
    rcases ho with ⟨o1, o2⟩ | ⟨o1, o2⟩
    · exact (up hi ha1 (e1.trans o1)).trans ((tCon.arc ha).trans (up ha2 hj (o2.symm.trans e2.symm)))
    · exact (up hi ha2 (e1.trans o1)).trans ((tCon.arc ha).symm.trans (up ha1 hj (o2.symm.trans e2.symm)))
  intro i j hi hj
  constructor
  · intro e
    rw [hg i hi, hg j hj] at e
    by_cases e1 : (g i).toInt = gone
    · by_cases e2 : (g j).toInt = gone
      · exact up hi hj (e1.trans e2.symm)
      · rw [if_pos e1, if_neg e2] at e
        exact both hi hj e1 e.symm
    · by_cases e2 : (g j).toInt = gone
      · rw [if_neg e1, if_pos e2] at e
        exact (both hj hi e2 e).symm
      · rw [if_neg e1, if_neg e2] at e
        exact up hi hj e
  · intro c
    refine c (fun x y => (g' x).toInt = (g' y).toInt) (fun _ => rfl) (fun _ _ e => e.symm) (fun _ _ _ e f => e.trans f) (fun b hb => ?_)
    show (g' (tFr d b)).toInt = (g' (tTo d b)).toInt
    rw [hg _ (hn b hb).1, hg _ (hn b hb).2]
    rcases (hq b).mp hb with hp | rfl
    · rw [(h _ _ (hn b hb).1 (hn b hb).2).mpr (tCon.arc hp)]
    · rcases ho with ⟨o1, o2⟩ | ⟨o1, o2⟩
      · rw [if_pos o1.symm, ← o2]
        by_cases e2 : kept = gone
        · rw [if_pos e2]
        · rw [if_neg e2]
      · rw [if_pos (show (g (tTo d b)).toInt = gone from o1.symm), ← o2]
        by_cases e2 : kept = gone
        · rw [if_pos e2]
        · rw [if_neg e2]
/-- the reference: arcs up to cost c, of cost c those ahead of a -/
def tPas (d : NtD) (c : Int) (a b : Nat) : Prop := (b : Int) < d.1 ∧ (tCo d b < c ∨ (tCo d b = c ∧ b < a))
def tRef (d : NtD) (c : Int) (a : Nat) (x : Int64) (g : Nat → Int32) : Prop := tLab d (tPas d c a) g ∧ ∀ j, btL x j = true ↔ (tPas d c a j ∧ tIn d j)
theorem tRef.start {d : NtD} {g : Nat → Int32} (hv : tVal d) (h : ∀ i, i < 12 → (g i).toInt = (i : Int)) : tRef d 0 0 0 g := by
  have h0 : ∀ b, tPas d 0 0 b ↔ False := by
    intro b
    constructor
    · rintro ⟨h1, h2 | ⟨_, h2⟩⟩
      · have := (hv b h1).2.2.1; omega
      · omega
    · exact False.elim
  refine ⟨(tLab.start h).congr h0, fun j => ?_⟩
  rw [btL_0, h0 j]
  constructor
  · intro h; cases h
  · intro h; exact h.1.elim
theorem tRef.other {d : NtD} {c : Int} {a : Nat} {x : Int64} {g : Nat → Int32} (h : tRef d c a x g) (hc : tCo d a ≠ c) : tRef d c (a + 1) x g := by
  have h0 : ∀ b, tPas d c (a + 1) b ↔ tPas d c a b := by
    intro b
    unfold tPas
    by_cases e : b = a
    · subst e
      constructor
      · rintro ⟨h1, h2 | ⟨h2, _⟩⟩
        · exact ⟨h1, Or.inl h2⟩
        · exact absurd h2 hc
      · rintro ⟨h1, h2 | ⟨h2, _⟩⟩
        · exact ⟨h1, Or.inl h2⟩
        · exact absurd h2 hc
    · have : b < a + 1 ↔ b < a := by omega
      rw [this]
  exact ⟨h.1.congr h0, fun j => by rw [h0 j]; exact h.2 j⟩
theorem tPas.more {d : NtD} {a : Nat} (ha : (a : Int) < d.1) (b : Nat) : tPas d (tCo d a) (a + 1) b ↔ (tPas d (tCo d a) a b ∨ b = a) := by
  unfold tPas
  constructor
  · rintro ⟨h1, h2 | ⟨h2, h3⟩⟩
    · exact Or.inl ⟨h1, Or.inl h2⟩
    · by_cases e : b = a
      · exact Or.inr e
      · exact Or.inl ⟨h1, Or.inr ⟨h2, by omega⟩⟩
  · rintro (⟨h1, h2 | ⟨h2, h3⟩⟩ | rfl)
    · exact ⟨h1, Or.inl h2⟩
    · exact ⟨h1, Or.inr ⟨h2, by omega⟩⟩
    · exact ⟨ha, Or.inr ⟨rfl, by omega⟩⟩
theorem tPas.node {d : NtD} (hv : tVal d) {c : Int} {a b : Nat} (h : tPas d c a b) : tFr d b < 12 ∧ tTo d b < 12 := ⟨(hv b h.1).1, (hv b h.1).2.1⟩
theorem tPas.self {d : NtD} {a : Nat} : ¬ tPas d (tCo d a) a a := by
  rintro ⟨_, h | ⟨_, h⟩⟩ <;> omega
theorem tRef.same {d : NtD} {c : Int} {a : Nat} {x : Int64} {g : Nat → Int32} (h : tRef d c a x g) (hv : tVal d) (ha : (a : Int) < d.1) (hc : tCo d a = c) (he : (g (tFr d a)).toInt = (g (tTo d a)).toInt) : tRef d c (a + 1) x g := by
  subst hc
  have hm := tPas.more (d := d) ha
  refine ⟨h.1.skip hm (fun b hb => tPas.node hv hb) he, fun j => ?_⟩
  rw [hm j, h.2 j]
  constructor
  · rintro ⟨h1, h2⟩; exact ⟨Or.inl h1, h2⟩
  · rintro ⟨h1 | rfl, h2⟩
    · exact ⟨h1, h2⟩
    · exact absurd ((h.1 _ _ (hv j ha).1 (hv j ha).2.1).mp he) h2
theorem tRef.take {d : NtD} {c : Int} {a : Nat} {x : Int64} {g g' : Nat → Int32} (h : tRef d c a x g) (hv : tVal d) (ha : (a : Int) < d.1) (ha40 : a < 40) (hc : tCo d a = c) (he : (g (tFr d a)).toInt ≠ (g (tTo d a)).toInt) (hg : ∀ i, i < 12 → (g' i).toInt = if (g i).toInt = (g (tTo d a)).toInt then (g (tFr d a)).toInt else (g i).toInt) : tRef d c (a + 1) (x ||| ((1 : Int64) <<< ((nI a).toInt64 &&& 63))) g' := by
  subst hc
  have hm := tPas.more (d := d) ha
  refine ⟨h.1.join hm (fun b hb => tPas.node hv hb) hg (Or.inr ⟨rfl, rfl⟩), fun j => ?_⟩
  rw [btL_set ha40, hm j, h.2 j]
  constructor
  · rintro (⟨h1, h2⟩ | rfl)
    · exact ⟨Or.inl h1, h2⟩
    · exact ⟨Or.inr rfl, fun c9 => he ((h.1 _ _ (hv j ha).1 (hv j ha).2.1).mpr c9)⟩
  · rintro ⟨h1 | rfl, h2⟩
    · exact Or.inl ⟨h1, h2⟩
    · exact Or.inr rfl
theorem tRef.next {d : NtD} {c : Int} {a : Nat} {x : Int64} {g : Nat → Int32} (h : tRef d c a x g) (ha : (a : Int) = d.1) : tRef d (c + 1) 0 x g := by
  have h0 : ∀ b, tPas d (c + 1) 0 b ↔ tPas d c a b := by
    intro b
    unfold tPas
    constructor
    · rintro ⟨h1, h2 | ⟨_, h2⟩⟩
      · by_cases e : tCo d b = c
        · exact ⟨h1, Or.inr ⟨e, by omega⟩⟩
        · exact ⟨h1, Or.inl (by omega)⟩
      · omega
    · rintro ⟨h1, h2 | ⟨h2, _⟩⟩
      · exact ⟨h1, Or.inl (by omega)⟩
      · exact ⟨h1, Or.inl (by omega)⟩
  exact ⟨h.1.congr h0, fun j => by rw [h0 j]; exact h.2 j⟩
theorem tRef.done {d : NtD} {x : Int64} {g : Nat → Int32} (h : tRef d 1001 0 x g) (hv : tVal d) : tAll d x := by
  intro j
  rw [h.2 j]
  constructor
  · rintro ⟨h1, h2⟩; exact ⟨h1.1, h2⟩
  · rintro ⟨h1, h2⟩; exact ⟨⟨h1, Or.inl (by have := (hv j h1).2.2.2; omega)⟩, h2⟩
/-- the class: the arcs that are seen are k that come first -/
def tCls (d : NtD) (k : Int) (s x : Int64) (g : Nat → Int32) : Prop := (∀ b, btL s b = true → (b : Int) < d.1) ∧ (∀ b c, btL s b = true → tBef d b c → btL s c = true) ∧ ((cntB (btL s) d.1.toNat : Nat) : Int) = k ∧ tLab d (fun b => btL s b = true) g ∧ ∀ j, btL x j = true ↔ (btL s j = true ∧ tIn d j)
theorem tCls.start {d : NtD} {g : Nat → Int32} (h : ∀ i, i < 12 → (g i).toInt = (i : Int)) : tCls d 0 0 0 g := by
  have h0 : ∀ b, btL 0 b = true ↔ False := fun b => by rw [btL_0]; constructor <;> intro h <;> cases h
  refine ⟨fun b hb => ((h0 b).mp hb).elim, fun b c hb => ((h0 b).mp hb).elim, ?_, (tLab.start h).congr h0, fun j => ?_⟩
  · have : ∀ n, cntB (btL 0) n = 0 := by
      intro n
      induction n with
      | zero => rfl
      | succ n ih => unfold cntB; rw [ih, if_neg (fun h => (h0 n).mp h)]
    rw [this]; rfl
  · rw [h0 j]
    constructor
    · intro h; exact h.elim
    · intro h; exact h.1.elim
/-- the cheapest that is not seen -/
def tLea (d : NtD) (s : Int64) (r : Nat) : Prop := (r : Int) < d.1 ∧ btL s r = false ∧ ∀ b : Nat, (b : Int) < d.1 → btL s b = false → tCo d r < tCo d b ∨ (tCo d r = tCo d b ∧ r ≤ b)
theorem tCls.some {d : NtD} {k : Int} {s x : Int64} {g : Nat → Int32} (h : tCls d k s x g) (hk : k < d.1) : ∃ b : Nat, (b : Int) < d.1 ∧ btL s b = false := by
  obtain ⟨i, h1, h2⟩ := cntB_some (f := btL s) (n := d.1.toNat) (by have := h.2.2.1; omega)
  exact ⟨i, by omega, h2⟩
theorem tCls.before {d : NtD} {k : Int} {s x : Int64} {g : Nat → Int32} {r : Nat} (h : tCls d k s x g) (hr : tLea d s r) (b : Nat) : tBef d r b ↔ btL s b = true := by
  constructor
  · rintro ⟨h1, h2⟩
    cases e : btL s b
    · have := hr.2.2 b h1 e; omega
    · rfl
  · intro hb
    refine ⟨h.1 b hb, ?_⟩
    have hne : b ≠ r := by intro e; subst e; rw [hr.2.1] at hb; cases hb
    by_cases e : tBef d b r
    · have := h.2.1 b r hb e; rw [hr.2.1] at this; cases this
    · unfold tBef at e
      have : ¬ (tCo d r < tCo d b ∨ (tCo d r = tCo d b ∧ r < b)) := fun h9 => e ⟨hr.1, h9⟩
      omega
theorem tCls.grow {d : NtD} {k : Int} {s x : Int64} {g : Nat → Int32} {r : Nat} (h : tCls d k s x g) (hr : tLea d s r) (hr40 : r < 40) : (∀ b, btL (s ||| ((1 : Int64) <<< ((nI r).toInt64 &&& 63))) b = true → (b : Int) < d.1) ∧ (∀ b c, btL (s ||| ((1 : Int64) <<< ((nI r).toInt64 &&& 63))) b = true → tBef d b c → btL (s ||| ((1 : Int64) <<< ((nI r).toInt64 &&& 63))) c = true) ∧ ((cntB (btL (s ||| ((1 : Int64) <<< ((nI r).toInt64 &&& 63)))) d.1.toNat : Nat) : Int) = k + 1 := by
  have hs : ∀ b, btL (s ||| ((1 : Int64) <<< ((nI r).toInt64 &&& 63))) b = true ↔ (btL s b = true ∨ b = r) := fun b => btL_set hr40
  refine ⟨fun b hb => ?_, fun b c hb hc => ?_, ?_⟩
  · rcases (hs b).mp hb with h1 | rfl
    · exact h.1 b h1
    · exact hr.1
  · rcases (hs b).mp hb with h1 | rfl
    · exact (hs c).mpr (Or.inl (h.2.1 b c h1 hc))
    · exact (hs c).mpr (Or.inl ((h.before hr c).mp hc))
  · rw [cntB_set (f := btL s) (a := r) (by have := hr.1; omega) hr.2.1 hs]
    have := h.2.2.1
    omega
theorem tCls.same {d : NtD} {k : Int} {s x : Int64} {g : Nat → Int32} {r : Nat} (h : tCls d k s x g) (hv : tVal d) (hr : tLea d s r) (hr40 : r < 40) (he : (g (tFr d r)).toInt = (g (tTo d r)).toInt) : tCls d (k + 1) (s ||| ((1 : Int64) <<< ((nI r).toInt64 &&& 63))) x g := by
  have hs : ∀ b, btL (s ||| ((1 : Int64) <<< ((nI r).toInt64 &&& 63))) b = true ↔ (btL s b = true ∨ b = r) := fun b => btL_set hr40
  obtain ⟨g1, g2, g3⟩ := h.grow hr hr40
  refine ⟨g1, g2, g3, h.2.2.2.1.skip hs (fun b hb => ⟨(hv b (g1 b hb)).1, (hv b (g1 b hb)).2.1⟩) he, fun j => ?_⟩
  rw [hs j, h.2.2.2.2 j]
  constructor
  · rintro ⟨h1, h2⟩; exact ⟨Or.inl h1, h2⟩
  · rintro ⟨h1 | rfl, h2⟩
    · exact ⟨h1, h2⟩
    · exact absurd (((h.2.2.2.1 _ _ (hv j hr.1).1 (hv j hr.1).2.1).mp he).mono (fun b hb => (h.before hr b).mpr hb)) h2
theorem tCls.take {d : NtD} {k : Int} {s x : Int64} {g g' : Nat → Int32} {r : Nat} (h : tCls d k s x g) (hv : tVal d) (hr : tLea d s r) (hr40 : r < 40) (he : (g (tFr d r)).toInt ≠ (g (tTo d r)).toInt) (hg : ∀ i, i < 12 → (g' i).toInt = if (g i).toInt = (g (tFr d r)).toInt then (g (tTo d r)).toInt else (g i).toInt) : tCls d (k + 1) (s ||| ((1 : Int64) <<< ((nI r).toInt64 &&& 63))) (x ||| ((1 : Int64) <<< ((nI r).toInt64 &&& 63))) g' := by
  have hs : ∀ b, btL (s ||| ((1 : Int64) <<< ((nI r).toInt64 &&& 63))) b = true ↔ (btL s b = true ∨ b = r) := fun b => btL_set hr40
  obtain ⟨g1, g2, g3⟩ := h.grow hr hr40
  refine ⟨g1, g2, g3, h.2.2.2.1.join hs (fun b hb => ⟨(hv b (g1 b hb)).1, (hv b (g1 b hb)).2.1⟩) hg (Or.inl ⟨rfl, rfl⟩), fun j => ?_⟩
  rw [btL_set hr40, hs j, h.2.2.2.2 j]
  constructor
  · rintro (⟨h1, h2⟩ | rfl)
    · exact ⟨Or.inl h1, h2⟩
    · exact ⟨Or.inr rfl, fun c9 => he ((h.2.2.2.1 _ _ (hv j hr.1).1 (hv j hr.1).2.1).mpr (c9.mono (fun b hb => (h.before hr b).mp hb)))⟩
  · rintro ⟨h1 | rfl, h2⟩
    · exact Or.inl ⟨h1, h2⟩
    · exact Or.inr rfl
theorem tCls.done {d : NtD} {k : Int} {s x : Int64} {g : Nat → Int32} (h : tCls d k s x g) (hk : k = d.1) : tAll d x := by
  intro j
  rw [h.2.2.2.2 j]
  constructor
  · rintro ⟨h1, h2⟩; exact ⟨h.1 j h1, h2⟩
  · rintro ⟨h1, h2⟩; exact ⟨cntB_all (f := btL s) (n := d.1.toNat) (by have := h.2.2.1; omega) j (by omega), h2⟩
theorem ArO.val {f95 f96 f97 f98 : Nat → Int32} {ar : Nat} (h : ArO f95 f96 f97 f98 ar) : tVal (((ar : Nat) : Int), f95, f96, f97, f98) := by
  intro b hb
  have hb2 : b < ar := by have h9 : ((b : Nat) : Int) < ((ar : Nat) : Int) := hb; omega
  obtain ⟨x, y, hx, hy, _, e1, e2, _, h3, h4⟩ := h b hb2
  refine ⟨?_, ?_, h3, h4⟩
  · show (f95 b).toInt.toNat < 12
    rw [e1, nI_toInt (by omega)]; omega
  · show (f96 b).toInt.toNat < 12
    rw [e2, nI_toInt (by omega)]; omega
theorem tRel.step {j3 j2 : Nat → Int32} {n5 i5 : Nat} {u w : Int} {x : Int32} (h : ∀ i, i < 12 → (j3 i).toInt = if i < n5 ∧ (j2 i).toInt = w then u else (j2 i).toInt) (hn : n5 < 12) (hi : i5 = n5) (hx : x.toInt = if (j3 n5).toInt = w then u else (j3 n5).toInt) : ∀ i, i < 12 → (upd j3 i5 x i).toInt = if i < n5 + 1 ∧ (j2 i).toInt = w then u else (j2 i).toInt := by
  subst hi
  intro i hi
  unfold upd
  by_cases e : i = i5
  · rw [if_pos e, hx]
    have e8 := h i5 hn
    rw [if_neg (fun h9 => absurd h9.1 (Nat.lt_irrefl _))] at e8
    rw [e8, e]
    by_cases h8 : (j2 i5).toInt = w
    · rw [if_pos h8, if_pos ⟨by omega, h8⟩]
    · rw [if_neg h8, if_neg (fun h9 => h8 h9.2)]
  · rw [if_neg e, h i hi]
    by_cases h8 : i < i5 ∧ (j2 i).toInt = w
    · rw [if_pos h8, if_pos ⟨by omega, h8.2⟩]
    · rw [if_neg h8, if_neg (fun h9 => h8 ⟨by omega, h9.2⟩)]
theorem tRel.done {j3 j2 : Nat → Int32} {n5 : Nat} {u w : Int} (h : ∀ i, i < 12 → (j3 i).toInt = if i < n5 ∧ (j2 i).toInt = w then u else (j2 i).toInt) (hn : 12 ≤ n5) : ∀ i, i < 12 → (j3 i).toInt = if (j2 i).toInt = w then u else (j2 i).toInt := by
  intro i hi
  rw [h i hi]
  by_cases h8 : (j2 i).toInt = w
  · rw [if_pos h8, if_pos ⟨by omega, h8⟩]
  · rw [if_neg h8, if_neg (fun h9 => h8 h9.2)]
theorem tRel.start {j2 : Nat → Int32} {u w : Int} : ∀ i, i < 12 → (j2 i).toInt = if i < 0 ∧ (j2 i).toInt = w then u else (j2 i).toInt := fun i _ => by rw [if_neg (fun h9 => absurd h9.1 (Nat.not_lt_zero i))]
theorem nI_tz {k : Int32} (h : 0 ≤ k.toInt) : nI k.toInt.toNat = k := by
  apply Int32.toInt_inj.mp
  rw [nI_toInt (by have := Int32.toInt_lt k; omega)]
  omega
theorem shl_and1 {x y : Int64} {k : Int32} (hy : y = x >>> (k.toInt64 &&& 63)) (h0 : 0 ≤ k.toInt) (h1 : k.toInt < 64) : (btL x k.toInt.toNat = true ∧ (y &&& 1).toInt = 1) ∨ (btL x k.toInt.toNat = false ∧ (y &&& 1).toInt = 0) := by
  have e := btL_shr (x := x) (k := k.toInt.toNat) (by omega)
  rw [nI_tz h0, ← hy] at e
  rw [← e]
  exact btL_and1 y
theorem seL {s v w : Int64} {k : Int32} (h0 : 0 ≤ k.toInt) (hv : v = (1 : Int64) <<< (k.toInt64 &&& 63)) (hw : w = s ||| v) : w = s ||| ((1 : Int64) <<< ((nI k.toInt.toNat).toInt64 &&& 63)) := by
  rw [nI_tz h0, hw, hv]
theorem tRel.yes {f : Nat → Int32} {i : Nat} {x : Int32} {g k : Int} (hx : x = f i) (h : x.toInt = g) : k = if (f i).toInt = g then k else (f i).toInt := by
  rw [if_pos (by rw [← hx]; exact h)]
theorem tRel.no {f : Nat → Int32} {i : Nat} {x y : Int32} {g k : Int} (hx : x = f i) (h : ¬ x.toInt = g) (hy : y = f i) : y.toInt = if (f i).toInt = g then k else (f i).toInt := by
  rw [if_neg (by rw [← hx]; exact h), hy]
theorem tIni.step {g g' : Nat → Int32} {i : Int32} (h : ∀ q : Nat, (q : Int) < i.toInt → (g q).toInt = (q : Int)) (h0 : 0 ≤ i.toInt) (hg : g' = upd g i.toNatClampNeg i) : ∀ q : Nat, (q : Int) < i.toInt + 1 → (g' q).toInt = (q : Int) := by
  subst hg
  intro q hq
  unfold upd
  have e0 : i.toNatClampNeg = i.toInt.toNat := rfl
  by_cases e : q = i.toNatClampNeg
  · rw [if_pos e]; omega
  · rw [if_neg e]; exact h q (by omega)
/-- the cheapest so far -/
def tFnd (d : NtD) (s : Int64) (i f : Int) : Prop := (f = -1 ∧ ∀ b : Nat, (b : Int) < i → btL s b = true) ∨ (0 ≤ f ∧ f < i ∧ btL s f.toNat = false ∧ ∀ b : Nat, (b : Int) < i → btL s b = false → tCo d f.toNat < tCo d b ∨ (tCo d f.toNat = tCo d b ∧ f.toNat ≤ b))
theorem tFnd.start {d : NtD} {s : Int64} {i f : Int} (hi : i = 0) (hf : f = -1) : tFnd d s i f := Or.inl ⟨hf, fun b hb => by omega⟩
theorem tFnd.seen {d : NtD} {s : Int64} {i f : Int} (h : tFnd d s i f) (h0 : 0 ≤ i) (hb : btL s i.toNat = true) : tFnd d s (i + 1) f := by
  rcases h with ⟨h1, h2⟩ | ⟨h1, h2, h3, h4⟩
  · refine Or.inl ⟨h1, fun b hb2 => ?_⟩
    by_cases e : b = i.toNat
    · rw [e]; exact hb
    · exact h2 b (by omega)
  · refine Or.inr ⟨h1, by omega, h3, fun b hb2 hb3 => ?_⟩
    by_cases e : b = i.toNat
    · rw [e, hb] at hb3; cases hb3
    · exact h4 b (by omega) hb3
theorem tFnd.first {d : NtD} {s : Int64} {i f : Int} (h : tFnd d s i f) (h0 : 0 ≤ i) (hb : btL s i.toNat = false) (hf : f = -1) : tFnd d s (i + 1) i := by
  rcases h with ⟨h1, h2⟩ | ⟨h1, h2, h3, h4⟩
  · refine Or.inr ⟨h0, by omega, hb, fun b hb2 hb3 => ?_⟩
    by_cases e : b = i.toNat
    · exact Or.inr ⟨by rw [e], by omega⟩
    · rw [h2 b (by omega)] at hb3; cases hb3
  · omega
theorem tFnd.less {d : NtD} {s : Int64} {i f : Int} (h : tFnd d s i f) (h0 : 0 ≤ i) (hb : btL s i.toNat = false) (hf : ¬ f = -1) (hc : tCo d i.toNat < tCo d f.toNat) : tFnd d s (i + 1) i := by
  rcases h with ⟨h1, h2⟩ | ⟨h1, h2, h3, h4⟩
  · exact absurd h1 hf
  · refine Or.inr ⟨h0, by omega, hb, fun b hb2 hb3 => ?_⟩
    by_cases e : b = i.toNat
    · exact Or.inr ⟨by rw [e], by omega⟩
    · have := h4 b (by omega) hb3; omega
theorem tFnd.more {d : NtD} {s : Int64} {i f : Int} (h : tFnd d s i f) (h0 : 0 ≤ i) (hf : ¬ f = -1) (hc : ¬ tCo d i.toNat < tCo d f.toNat) : tFnd d s (i + 1) f := by
  rcases h with ⟨h1, h2⟩ | ⟨h1, h2, h3, h4⟩
  · exact absurd h1 hf
  · refine Or.inr ⟨h1, by omega, h3, fun b hb2 hb3 => ?_⟩
    by_cases e : b = i.toNat
    · rw [e]; omega
    · exact h4 b (by omega) hb3
theorem tFnd.done {d : NtD} {s : Int64} {i f r : Int} (h : tFnd d s i f) (hi : d.1 ≤ i) (hi2 : i ≤ d.1) (hr : r = 0 ∨ r = f) (hr2 : f ≤ r) (hs : ∃ b : Nat, (b : Int) < d.1 ∧ btL s b = false) : tLea d s r.toNat := by
  have e : i = d.1 := by omega
  subst e
  rcases h with ⟨h1, h2⟩ | ⟨h1, h2, h3, h4⟩
  · obtain ⟨b, hb, hb2⟩ := hs
    rw [h2 b hb] at hb2; cases hb2
  · have e2 : r = f := by omega
    subst e2
    exact ⟨by omega, h3, h4⟩
theorem tVal.z : tVal ntZ := fun b hb => by
  have h9 : ((b : Nat) : Int) < 0 := hb
  omega
end
section
/-! ways: lengths to a node -/
/-- no arc makes a length shorter -/
def pFea (d : NtD) (w : Nat → Int) (f : Nat → Int) : Prop := ∀ b : Nat, (b : Int) < d.1 → f (tTo d b) < 536870912 → f (tFr d b) ≤ f (tTo d b) + w b
/-- each length is of an arc -/
def pSup (d : NtD) (w : Nat → Int) (t : Nat) (f : Nat → Int) : Prop := ∀ n, n < 12 → n ≠ t → f n < 536870912 → ∃ b : Nat, (b : Int) < d.1 ∧ tFr d b = n ∧ f (tTo d b) < 536870912 ∧ f n = f (tTo d b) + w b
def pSg (d : NtD) (w : Nat → Int) (t : Nat) (f : Nat → Int) : Prop := ∀ n, n < 12 → n ≠ t → f n < 536870912 → ∃ b : Nat, (b : Int) < d.1 ∧ tFr d b = n ∧ f (tTo d b) < 536870912 ∧ f (tTo d b) + w b ≤ f n
def pBd (t : Nat) (f : Nat → Int) : Prop := f t = 0 ∧ ∀ n, n < 12 → 0 ≤ f n ∧ f n ≤ 536870912
def pDis (d : NtD) (w : Nat → Int) (t : Nat) (f : Nat → Int) : Prop := pBd t f ∧ pFea d w f ∧ pSup d w t f
theorem pSg.sup {d : NtD} {w : Nat → Int} {t : Nat} {f : Nat → Int} (h : pSg d w t f) (hf : pFea d w f) : pSup d w t f := by
  intro n hn ht hF
  obtain ⟨b, h1, h2, h3, h4⟩ := h n hn ht hF
  have h5 := hf b h1 h3
  rw [h2] at h5
  exact ⟨b, h1, h2, h3, by omega⟩
def w16 (d : NtD) (b : Nat) : Int := 16 * tCo d b + 1
def w64 (d : NtD) (b : Nat) : Int := 64 * tCo d b + 1
theorem pDis.le {d : NtD} {w : Nat → Int} {t : Nat} {f g : Nat → Int} (hv : tVal d) (hw : ∀ b : Nat, (b : Int) < d.1 → 0 < w b) (hf : pDis d w t f) (hg : pDis d w t g) : ∀ (m n : Nat), n < 12 → g n ≤ (m : Int) → g n < 536870912 → f n ≤ g n := by
  intro m
  induction m with
  | zero =>
    intro n hn hm hF
    by_cases e : n = t
    · subst e
      rw [hf.1.1, hg.1.1]; exact Int.le_refl _
    · obtain ⟨b, h1, h2, h3, h4⟩ := hg.2.2 n hn e hF
      have := hw b h1
      have := (hg.1.2 (tTo d b) (hv b h1).2.1).1
      omega
  | succ m ih =>
    intro n hn hm hF
    by_cases e : n = t
    · subst e
      rw [hf.1.1, hg.1.1]; exact Int.le_refl _
    · obtain ⟨b, h1, h2, h3, h4⟩ := hg.2.2 n hn e hF
      have h5 := hw b h1
      have h6 := ih (tTo d b) (hv b h1).2.1 (by omega) h3
      have h7 := hf.2.1 b h1 (by omega)
      rw [h2] at h7
      omega
theorem pDis.eq {d : NtD} {w : Nat → Int} {t : Nat} {f g : Nat → Int} (hv : tVal d) (hw : ∀ b : Nat, (b : Int) < d.1 → 0 < w b) (hf : pDis d w t f) (hg : pDis d w t g) (n : Nat) (hn : n < 12) : f n = g n := by
  have a1 := hf.1.2 n hn
  have a2 := hg.1.2 n hn
  by_cases e1 : g n < 536870912
  · have h1 := hf.le hv hw hg (g n).toNat n hn (by omega) e1
    have h2 := hg.le hv hw hf (f n).toNat n hn (by omega) (by omega)
    omega
  · by_cases e2 : f n < 536870912
    · have h2 := hg.le hv hw hf (f n).toNat n hn (by omega) e2
      omega
    · omega
/-- how many are shorter -/
def pRk (f : Nat → Int) (n : Nat) : Nat := cntB (fun m => decide (f m < f n)) 12
theorem pRk.bd {f : Nat → Int} {n : Nat} (hn : n < 12) : pRk f n ≤ 11 := by
  have h := cntB_miss (p := fun m => decide (f m < f n)) (n := 12) (i := n) hn (decide_eq_false (by omega))
  unfold pRk; omega
theorem pRk.lt {f : Nat → Int} {m n : Nat} (hm : m < 12) (h : f m < f n) : pRk f m + 1 ≤ pRk f n := by
  unfold pRk
  exact cntB_lt (i := m) (fun i _ hi => decide_eq_true (by have := of_decide_eq_true hi; omega)) hm (decide_eq_false (by omega)) (decide_eq_true h)
/-- a length is so many times K, and its arcs -/
theorem pDis.parts {d : NtD} {w : Nat → Int} {t : Nat} {f : Nat → Int} (K : Int) (hv : tVal d) (hw : ∀ b, w b = K * tCo d b + 1) (hK : 0 ≤ K) (hf : pDis d w t f) : ∀ (m n : Nat), n < 12 → f n ≤ (m : Int) → f n < 536870912 → ∃ C k : Int, f n = K * C + k ∧ 0 ≤ C ∧ 0 ≤ k ∧ k ≤ (pRk f n : Int) ∧ C ≤ 1000 * k := by
  have hp : ∀ b : Nat, (b : Int) < d.1 → 0 < w b := by
    intro b hb
    have h1 := (hv b hb).2.2.1
    have h2 := Int.mul_nonneg hK h1
    rw [hw b]; omega
  have h0 : ∀ n, n = t → f n = K * 0 + 0 := by
    intro n e; rw [e, hf.1.1, Int.mul_zero]; rfl
  intro m
  induction m with
  | zero =>
    intro n hn hm hF
    by_cases e : n = t
    · exact ⟨0, 0, h0 n e, by omega, by omega, by omega, by omega⟩
    · obtain ⟨b, h1, h2, h3, h4⟩ := hf.2.2 n hn e hF
      have := hp b h1
      have := (hf.1.2 (tTo d b) (hv b h1).2.1).1
      omega
  | succ m ih =>
    intro n hn hm hF
    by_cases e : n = t
    · exact ⟨0, 0, h0 n e, by omega, by omega, by omega, by omega⟩
    · obtain ⟨b, h1, h2, h3, h4⟩ := hf.2.2 n hn e hF
      have h5 := hp b h1
      obtain ⟨C, k, g1, g2, g3, g4, g5⟩ := ih (tTo d b) (hv b h1).2.1 (by omega) h3
      have h6 := pRk.lt (f := f) (m := tTo d b) (n := n) (hv b h1).2.1 (by omega)
      have h7 := (hv b h1).2.2
      refine ⟨C + tCo d b, k + 1, ?_, by omega, by omega, by omega, by omega⟩
      rw [h4, g1, hw b, Int.mul_add]; omega
theorem pDis.p16 {d : NtD} {t : Nat} {f : Nat → Int} (hv : tVal d) (hf : pDis d (w16 d) t f) (n : Nat) (hn : n < 12) (hF : f n < 536870912) : ∃ C k : Int, f n = 16 * C + k ∧ 0 ≤ C ∧ 0 ≤ k ∧ k ≤ 11 ∧ C ≤ 11000 := by
  obtain ⟨C, k, h1, h2, h3, h4, h5⟩ := hf.parts 16 hv (fun _ => rfl) (by omega) (f n).toNat n hn (by have := (hf.1.2 n hn).1; omega) hF
  have := pRk.bd (f := f) hn
  exact ⟨C, k, h1, h2, h3, by omega, by omega⟩
theorem pDis.p64 {d : NtD} {t : Nat} {f : Nat → Int} (hv : tVal d) (hf : pDis d (w64 d) t f) (n : Nat) (hn : n < 12) (hF : f n < 536870912) : ∃ C k : Int, f n = 64 * C + k ∧ 0 ≤ C ∧ 0 ≤ k ∧ k ≤ 11 ∧ C ≤ 11000 := by
  obtain ⟨C, k, h1, h2, h3, h4, h5⟩ := hf.parts 64 hv (fun _ => rfl) (by omega) (f n).toNat n hn (by have := (hf.1.2 n hn).1; omega) hF
  have := pRk.bd (f := f) hn
  exact ⟨C, k, h1, h2, h3, by omega, by omega⟩
/-- lengths of the other kind -/
def pCv (x : Int) : Int := if x < 536870912 then 16 * (x / 64) + x % 64 else 536870912
theorem pCv.at {x C k : Int} (h : x = 64 * C + k) (h0 : 0 ≤ k) (h1 : k ≤ 11) (hF : x < 536870912) : pCv x = 16 * C + k := by
  unfold pCv
  rw [if_pos hF]
  omega
theorem pDis.conv {d : NtD} {t : Nat} {f : Nat → Int} (hv : tVal d) (hf : pDis d (w64 d) t f) : pDis d (w16 d) t (fun n => pCv (f n)) := by
  have far : ∀ n, ¬ f n < 536870912 → pCv (f n) = 536870912 := fun n h => by unfold pCv; rw [if_neg h]
  have lt : ∀ n, n < 12 → pCv (f n) < 536870912 → f n < 536870912 := by
    intro n hn h
    by_cases e : f n < 536870912
    · exact e
    · rw [far n e] at h; omega
  refine ⟨⟨?_, fun n hn => ?_⟩, fun b hb hF => ?_, fun n hn ht hF => ?_⟩
  · show pCv (f t) = 0
    rw [hf.1.1]; rfl
  · show 0 ≤ pCv (f n) ∧ pCv (f n) ≤ 536870912
    by_cases e : f n < 536870912
    · obtain ⟨C, k, h1, h2, h3, h4, h5⟩ := hf.p64 hv n hn e
      rw [pCv.at h1 h3 h4 e]; omega
    · rw [far n e]; omega
  · have hF2 := lt _ (hv b hb).2.1 hF
    have h6 := hf.2.1 b hb hF2
    obtain ⟨C, k, h1, h2, h3, h4, h5⟩ := hf.p64 hv _ (hv b hb).2.1 hF2
    have hc := (hv b hb).2.2
    show pCv (f (tFr d b)) ≤ pCv (f (tTo d b)) + w16 d b
    unfold w64 at h6
    obtain ⟨C1, k1, g1, g2, g3, g4, g5⟩ := hf.p64 hv _ (hv b hb).1 (by omega)
    rw [pCv.at h1 h3 h4 hF2, pCv.at g1 g3 g4 (by omega)]
    unfold w16
    omega
  · have hF2 := lt n hn hF
    obtain ⟨b, h1, h2, h3, h4⟩ := hf.2.2 n hn ht hF2
    obtain ⟨C, k, g1, g2, g3, g4, g5⟩ := hf.p64 hv n hn hF2
    obtain ⟨C1, k1, e1, e2, e3, e4, e5⟩ := hf.p64 hv _ (hv b h1).2.1 h3
    have hc := (hv b h1).2.2
    unfold w64 at h4
    refine ⟨b, h1, h2, ?_, ?_⟩
    · show pCv (f (tTo d b)) < 536870912
      rw [pCv.at e1 e3 e4 h3]; omega
    · show pCv (f n) = pCv (f (tTo d b)) + w16 d b
      rw [pCv.at g1 g3 g4 hF2, pCv.at e1 e3 e4 h3]
      unfold w16
      omega
/-- an arc on a shortest way -/
def pOn (d : NtD) (w : Nat → Int) (f : Nat → Int) (n b : Nat) : Prop := (b : Int) < d.1 ∧ tFr d b = n ∧ f (tTo d b) < 536870912 ∧ f (tTo d b) + w b = f n
/-- the next node -/
def pNx (d : NtD) (w : Nat → Int) (f : Nat → Int) (n r : Nat) : Prop := (∃ b, pOn d w f n b ∧ tTo d b = r) ∧ ∀ b, pOn d w f n b → r ≤ tTo d b
theorem pNx.eq {d : NtD} {w : Nat → Int} {f : Nat → Int} {n r q : Nat} (h : pNx d w f n r) (h2 : pNx d w f n q) : r = q := by
  obtain ⟨⟨b, h3, h4⟩, h5⟩ := h
  obtain ⟨⟨c, g3, g4⟩, g5⟩ := h2
  have := h5 c g3
  have := g5 b h3
  omega
theorem pOn.conv {d : NtD} {t : Nat} {f : Nat → Int} (hv : tVal d) (hf : pDis d (w64 d) t f) {n b : Nat} (hn : n < 12) (hF : f n < 536870912) : pOn d (w16 d) (fun n => pCv (f n)) n b ↔ pOn d (w64 d) f n b := by
  obtain ⟨C, k, g1, g2, g3, g4, g5⟩ := hf.p64 hv n hn hF
  unfold pOn
  constructor
  · rintro ⟨h1, h2, h3, h4⟩
    have h3 : pCv (f (tTo d b)) < 536870912 := h3
    have h4 : pCv (f (tTo d b)) + w16 d b = pCv (f n) := h4
    have hF2 : f (tTo d b) < 536870912 := by
      by_cases e : f (tTo d b) < 536870912
      · exact e
      · unfold pCv at h3; rw [if_neg e] at h3; omega
    obtain ⟨C1, k1, e1, e2, e3, e4, e5⟩ := hf.p64 hv _ (hv b h1).2.1 hF2
    rw [pCv.at g1 g3 g4 hF, pCv.at e1 e3 e4 hF2] at h4
    unfold w16 at h4
    refine ⟨h1, h2, hF2, ?_⟩
    unfold w64
    omega
  · rintro ⟨h1, h2, h3, h4⟩
    obtain ⟨C1, k1, e1, e2, e3, e4, e5⟩ := hf.p64 hv _ (hv b h1).2.1 h3
    unfold w64 at h4
    refine ⟨h1, h2, ?_, ?_⟩
    · show pCv (f (tTo d b)) < 536870912
      rw [pCv.at e1 e3 e4 h3]; omega
    · show pCv (f (tTo d b)) + w16 d b = pCv (f n)
      rw [pCv.at g1 g3 g4 hF, pCv.at e1 e3 e4 h3]
      unfold w16
      omega
theorem pNx.conv {d : NtD} {t : Nat} {f : Nat → Int} (hv : tVal d) (hf : pDis d (w64 d) t f) {n r : Nat} (hn : n < 12) (hF : f n < 536870912) (h : pNx d (w64 d) f n r) : pNx d (w16 d) (fun n => pCv (f n)) n r := by
  obtain ⟨⟨b, h3, h4⟩, h5⟩ := h
  exact ⟨⟨b, (pOn.conv hv hf hn hF).mpr h3, h4⟩, fun c hc => h5 c ((pOn.conv hv hf hn hF).mp hc)⟩
/-- node i of the way -/
def pWay (d : NtD) (w : Nat → Int) (t : Nat) (f : Nat → Int) (s : Nat) : Nat → Nat → Prop
  | 0, r => r = s
  | i + 1, r => ∃ m, pWay d w t f s i m ∧ m ≠ t ∧ pNx d w f m r
theorem pWay.eq {d : NtD} {w : Nat → Int} {t : Nat} {f : Nat → Int} {s : Nat} : ∀ {i r q : Nat}, pWay d w t f s i r → pWay d w t f s i q → r = q := by
  intro i
  induction i with
  | zero => intro r q h h2; exact Eq.trans h (Eq.symm h2)
  | succ i ih =>
    intro r q h h2
    obtain ⟨m, h3, _, h4⟩ := h
    obtain ⟨k, g3, _, g4⟩ := h2
    have := ih h3 g3
    subst this
    exact h4.eq g4
/-- the answer of path -/
def pAns (d : NtD) (s t : Nat) (i r : Int) : Prop := ∃ f : Nat → Int, pDis d (w16 d) t f ∧ ((¬ f s < 536870912 ∧ ((i = -3 ∧ r = 0) ∨ (i ≠ -3 ∧ r = -1))) ∨ (f s < 536870912 ∧ ((i = -2 ∧ r = f s / 16) ∨ (i = -3 ∧ r = f s % 16 + 1) ∨ (i < 0 ∧ i ≠ -2 ∧ i ≠ -3 ∧ r = -1) ∨ (0 ≤ i ∧ f s % 16 < i ∧ r = -1) ∨ (0 ≤ i ∧ i ≤ f s % 16 ∧ 0 ≤ r ∧ pWay d (w16 d) t f s i.toNat r.toNat))))
theorem w16.pos {d : NtD} (hv : tVal d) (b : Nat) (hb : (b : Int) < d.1) : 0 < w16 d b := by
  have := (hv b hb).2.2.1
  unfold w16; omega
theorem w64.pos {d : NtD} (hv : tVal d) (b : Nat) (hb : (b : Int) < d.1) : 0 < w64 d b := by
  have := (hv b hb).2.2.1
  unfold w64; omega
theorem pOn.congr {d : NtD} {w : Nat → Int} {f g : Nat → Int} (hv : tVal d) (he : ∀ n, n < 12 → f n = g n) {n b : Nat} (hn : n < 12) (h : pOn d w f n b) : pOn d w g n b := by
  obtain ⟨h1, h2, h3, h4⟩ := h
  rw [he _ (hv b h1).2.1] at h3 h4
  rw [he n hn] at h4
  exact ⟨h1, h2, h3, h4⟩
theorem pNx.congr {d : NtD} {w : Nat → Int} {f g : Nat → Int} (hv : tVal d) (he : ∀ n, n < 12 → f n = g n) {n r : Nat} (hn : n < 12) (h : pNx d w f n r) : pNx d w g n r := by
  obtain ⟨⟨b, h3, h4⟩, h5⟩ := h
  exact ⟨⟨b, h3.congr hv he hn, h4⟩, fun c hc => h5 c (hc.congr hv (fun m hm => (he m hm).symm) hn)⟩
theorem pNx.node {d : NtD} {w : Nat → Int} {f : Nat → Int} (hv : tVal d) {n r : Nat} (h : pNx d w f n r) : r < 12 := by
  obtain ⟨⟨b, h3, h4⟩, _⟩ := h
  rw [← h4]; exact (hv b h3.1).2.1
theorem pWay.congr {d : NtD} {w : Nat → Int} {t : Nat} {f g : Nat → Int} {s : Nat} (hv : tVal d) (he : ∀ n, n < 12 → f n = g n) (hs : s < 12) : ∀ i r, pWay d w t f s i r → pWay d w t g s i r ∧ r < 12 := by
  intro i
  induction i with
  | zero =>
    intro r h
    have h : r = s := h
    exact ⟨h, by omega⟩
  | succ i ih =>
    intro r h
    obtain ⟨m, h3, h4, h5⟩ := h
    obtain ⟨g3, g4⟩ := ih m h3
    exact ⟨⟨m, g3, h4, h5.congr hv he g4⟩, h5.node hv⟩
theorem pAns.eq {d : NtD} {s t : Nat} {i r q : Int} (hv : tVal d) (hs : s < 12) (h : pAns d s t i r) (h2 : pAns d s t i q) : r = q := by
  obtain ⟨f, hf, h⟩ := h
  obtain ⟨g, hg, h2⟩ := h2
  have he := fun n hn => hf.eq hv (w16.pos hv) hg n hn
  have hes := he s hs
  rcases h with ⟨a1, a2⟩ | ⟨a1, a2⟩
  · rcases h2 with ⟨b1, b2⟩ | ⟨b1, b2⟩
    · omega
    · omega
  · rcases h2 with ⟨b1, b2⟩ | ⟨b1, b2⟩
    · omega
    · rcases a2 with a2 | a2 | a2 | a2 | ⟨x1, x2, x3, x4⟩
      · rcases b2 with b2 | b2 | b2 | b2 | ⟨y1, y2, y3, y4⟩ <;> omega
      · rcases b2 with b2 | b2 | b2 | b2 | ⟨y1, y2, y3, y4⟩ <;> omega
      · rcases b2 with b2 | b2 | b2 | b2 | ⟨y1, y2, y3, y4⟩ <;> omega
      · rcases b2 with b2 | b2 | b2 | b2 | ⟨y1, y2, y3, y4⟩ <;> omega
      · rcases b2 with b2 | b2 | b2 | b2 | ⟨y1, y2, y3, y4⟩
        · omega
        · omega
        · omega
        · omega
        · have h9 := (pWay.congr hv he hs _ _ x4).1.eq y4
          omega
/-- an arc makes a length shorter -/
theorem pSg.step {d : NtD} {w : Nat → Int} {t a : Nat} {f g : Nat → Int} (h : pSg d w t f) (hb : pBd t f) (ht : t < 12) (hv : tVal d) (ha : (a : Int) < d.1) (hw : 0 < w a) (hF : f (tTo d a) < 536870912) (hl : f (tTo d a) + w a < f (tFr d a)) (hg : ∀ n, n < 12 → g n = if n = tFr d a then f (tTo d a) + w a else f n) : pSg d w t g ∧ pBd t g := by
  have hn := hv a ha
  have htn : tFr d a ≠ tTo d a := by intro e; rw [e] at hl; omega
  have b2 := hb.2 (tTo d a) hn.2.1
  have b1 := hb.2 (tFr d a) hn.1
  have hft : tFr d a ≠ t := by intro e; rw [e, hb.1] at hl; omega
  have le : ∀ n, n < 12 → g n ≤ f n := by
    intro n h9
    rw [hg n h9]
    by_cases e : n = tFr d a
    · rw [if_pos e, e]; omega
    · rw [if_neg e]; exact Int.le_refl _
  refine ⟨fun n h1 h2 h3 => ?_, ?_, fun n h9 => ?_⟩
  · by_cases e : n = tFr d a
    · refine ⟨a, ha, e.symm, ?_, ?_⟩
      · rw [hg _ hn.2.1, if_neg (fun e9 => htn e9.symm)]; exact hF
      · rw [hg _ hn.2.1, if_neg (fun e9 => htn e9.symm), hg n h1, if_pos e]; exact Int.le_refl _
    · rw [hg n h1, if_neg e] at h3
      obtain ⟨b, g1, g2, g3, g4⟩ := h n h1 h2 h3
      have := le (tTo d b) (hv b g1).2.1
      refine ⟨b, g1, g2, by omega, ?_⟩
      rw [hg n h1, if_neg e]; omega
  · rw [hg t ht, if_neg (fun e => hft e.symm)]; exact hb.1
  · have := hb.2 n h9
    rw [hg n h9]
    by_cases e : n = tFr d a
    · rw [if_pos e]; omega
    · rw [if_neg e]; exact this
/-- the reference: within a turn; l: whether something became shorter -/
def rIn (d : NtD) (w : Nat → Int) (t : Nat) (f : Nat → Int) (i : Nat) (l : Int) : Prop := pSg d w t f ∧ pBd t f ∧ (l = 0 → ∀ b : Nat, b < i → (b : Int) < d.1 → f (tTo d b) < 536870912 → f (tFr d b) ≤ f (tTo d b) + w b)
theorem rIn.start {d : NtD} {w : Nat → Int} {t : Nat} {f : Nat → Int} (hf : ∀ n, n < 12 → f n = if n = t then 0 else 536870912) (ht : t < 12) : pSg d w t f ∧ pBd t f := by
  refine ⟨fun n hn hnt hF => ?_, ?_, fun n hn => ?_⟩
  · rw [hf n hn, if_neg hnt] at hF; omega
  · rw [hf t ht, if_pos rfl]
  · rw [hf n hn]
    by_cases e : n = t
    · rw [if_pos e]; omega
    · rw [if_neg e]; omega
theorem rIn.begin {d : NtD} {w : Nat → Int} {t : Nat} {f : Nat → Int} {l : Int} (h : pSg d w t f ∧ pBd t f) : rIn d w t f 0 l := ⟨h.1, h.2, fun _ b hb => absurd hb (Nat.not_lt_zero b)⟩
theorem rIn.skip {d : NtD} {w : Nat → Int} {t i : Nat} {f : Nat → Int} {l : Int} (h : rIn d w t f i l) (hs : ¬ f (tTo d i) < 536870912 ∨ f (tFr d i) ≤ f (tTo d i) + w i) : rIn d w t f (i + 1) l := by
  refine ⟨h.1, h.2.1, fun hl b hb hn hF => ?_⟩
  by_cases e : b = i
  · subst e
    rcases hs with hs | hs
    · exact absurd hF hs
    · exact hs
  · exact h.2.2 hl b (by omega) hn hF
theorem rIn.take {d : NtD} {w : Nat → Int} {t i : Nat} {f g : Nat → Int} {l l2 : Int} (h : rIn d w t f i l) (ht : t < 12) (hv : tVal d) (hi : (i : Int) < d.1) (hw : 0 < w i) (hF : f (tTo d i) < 536870912) (hl : f (tTo d i) + w i < f (tFr d i)) (hg : ∀ n, n < 12 → g n = if n = tFr d i then f (tTo d i) + w i else f n) (h2 : l2 ≠ 0) : rIn d w t g (i + 1) l2 := by
  have h9 := h.1.step h.2.1 ht hv hi hw hF hl hg
  exact ⟨h9.1, h9.2, fun e => absurd e h2⟩
theorem rIn.done {d : NtD} {w : Nat → Int} {t i : Nat} {f : Nat → Int} {l : Int} (h : rIn d w t f i l) (hi : d.1 ≤ (i : Int)) (hl : l = 0) : pDis d w t f := by
  have hf : pFea d w f := fun b hb hF => h.2.2 hl b (by omega) hb hF
  exact ⟨h.2.1, hf, h.1.sup hf⟩
/-- the class: lev tells in which turn a length became what it is -/
def mLev (f : Nat → Int) (j : Int) (lev : Nat → Int) : Prop := ∀ n, n < 12 → 0 ≤ lev n ∧ lev n ≤ (pRk f n : Int) ∧ lev n ≤ j
def mHd (d : NtD) (w : Nat → Int) (t : Nat) (f : Nat → Int) (j c : Int) : Prop := pSg d w t f ∧ pBd t f ∧ ∃ lev : Nat → Int, mLev f j lev ∧ (∀ b : Nat, (b : Int) < d.1 → f (tTo d b) < 536870912 → f (tFr d b) ≤ f (tTo d b) + w b ∨ j ≤ lev (tTo d b)) ∧ (c = 0 → pFea d w f)
def mIn (d : NtD) (w : Nat → Int) (t : Nat) (f : Nat → Int) (j : Int) (i : Nat) (c : Int) : Prop := pSg d w t f ∧ pBd t f ∧ ∃ lev : Nat → Int, mLev f j lev ∧ (∀ b : Nat, (b : Int) < d.1 → f (tTo d b) < 536870912 → f (tFr d b) ≤ f (tTo d b) + w b ∨ (b < i ∧ j ≤ lev (tTo d b)) ∨ (i ≤ b ∧ j - 1 ≤ lev (tTo d b))) ∧ (c = 0 → ∀ n, n < 12 → lev n < j)
theorem mHd.start {d : NtD} {w : Nat → Int} {t : Nat} {f : Nat → Int} {j c : Int} (hf : ∀ n, n < 12 → f n = if n = t then 0 else 536870912) (ht : t < 12) (hj : j = 0) (hc : c ≠ 0) : mHd d w t f j c := by
  have h9 := rIn.start (d := d) (w := w) hf ht
  exact ⟨h9.1, h9.2, fun _ => 0, fun n _ => ⟨by (try dsimp only); omega, by (try dsimp only); omega, by (try dsimp only); omega⟩, fun b _ _ => Or.inr (by (try dsimp only); omega), fun e => absurd e hc⟩
theorem mHd.go {d : NtD} {w : Nat → Int} {t : Nat} {f : Nat → Int} {j c c2 : Int} (h : mHd d w t f j c) : mIn d w t f (j + 1) 0 c2 := by
  obtain ⟨h1, h2, lev, h3, h4, _⟩ := h
  refine ⟨h1, h2, lev, fun n hn => ?_, fun b hb hF => ?_, fun _ n hn => ?_⟩
  · have := h3 n hn; omega
  · rcases h4 b hb hF with h5 | h5
    · exact Or.inl h5
    · exact Or.inr (Or.inr ⟨Nat.zero_le _, by omega⟩)
  · have := h3 n hn; omega
theorem mIn.skip {d : NtD} {w : Nat → Int} {t i : Nat} {f : Nat → Int} {j c : Int} (h : mIn d w t f j i c) (hs : ¬ f (tTo d i) < 536870912 ∨ f (tFr d i) ≤ f (tTo d i) + w i) : mIn d w t f j (i + 1) c := by
  obtain ⟨h1, h2, lev, h3, h4, h5⟩ := h
  refine ⟨h1, h2, lev, h3, fun b hb hF => ?_, h5⟩
  by_cases e : b = i
  · subst e
    rcases hs with hs | hs
    · exact absurd hF hs
    · exact Or.inl hs
  · rcases h4 b hb hF with h6 | ⟨h6, h7⟩ | ⟨h6, h7⟩
    · exact Or.inl h6
    · exact Or.inr (Or.inl ⟨by omega, h7⟩)
    · exact Or.inr (Or.inr ⟨by omega, h7⟩)
theorem pRk.grow {f g : Nat → Int} {n : Nat} (hn : n < 12) (hl : ∀ m, m < 12 → g m ≤ f m) (he : g n = f n) : pRk f n ≤ pRk g n := by
  unfold pRk
  exact cntB_mono (fun i hi h9 => decide_eq_true (by have := of_decide_eq_true h9; have := hl i hi; omega))
theorem mIn.take {d : NtD} {w : Nat → Int} {t i : Nat} {f g : Nat → Int} {j c c2 : Int} (h : mIn d w t f j i c) (ht : t < 12) (hv : tVal d) (hi : (i : Int) < d.1) (hw : 0 < w i) (hF : f (tTo d i) < 536870912) (hl : f (tTo d i) + w i < f (tFr d i)) (hg : ∀ n, n < 12 → g n = if n = tFr d i then f (tTo d i) + w i else f n) (h2 : c2 ≠ 0) : mIn d w t g j (i + 1) c2 := by
  obtain ⟨h1, h2b, lev, h3, h4, h5⟩ := h
  have h9 := h1.step h2b ht hv hi hw hF hl hg
  have hn := hv i hi
  have htn : tFr d i ≠ tTo d i := by intro e; rw [e] at hl; omega
  have le : ∀ n, n < 12 → g n ≤ f n := by
    intro n h8
    rw [hg n h8]
    by_cases e : n = tFr d i
    · rw [if_pos e, e]; omega
    · rw [if_neg e]; exact Int.le_refl _
  have gto : g (tTo d i) = f (tTo d i) := by rw [hg _ hn.2.1, if_neg (fun e => htn e.symm)]
  have gfr : g (tFr d i) = f (tTo d i) + w i := by rw [hg _ hn.1, if_pos rfl]
  have hlev : j - 1 ≤ lev (tTo d i) := by
    rcases h4 i hi hF with h6 | ⟨h6, _⟩ | ⟨_, h6⟩
    · omega
    · omega
    · exact h6
  have r1 := h3 (tTo d i) hn.2.1
  have r2 := pRk.grow (f := f) (g := g) hn.2.1 le gto
  have r3 := pRk.lt (f := g) (m := tTo d i) (n := tFr d i) hn.2.1 (by omega)
  have r0 := h3 (tFr d i) hn.1
  refine ⟨h9.1, h9.2, fun n => if n = tFr d i then j else lev n, fun n h8 => ?_, fun b hb hF2 => ?_, fun e => absurd e h2⟩
  · show 0 ≤ (if n = tFr d i then j else lev n) ∧ (if n = tFr d i then j else lev n) ≤ (pRk g n : Int) ∧ (if n = tFr d i then j else lev n) ≤ j
    by_cases e : n = tFr d i
    · rw [if_pos e, e]; omega
    · rw [if_neg e]
      have a1 := h3 n h8
      have a2 := pRk.grow (f := f) (g := g) h8 le (by rw [hg n h8, if_neg e])
      omega
  · show g (tFr d b) ≤ g (tTo d b) + w b ∨ (b < i + 1 ∧ j ≤ (if tTo d b = tFr d i then j else lev (tTo d b))) ∨ (i + 1 ≤ b ∧ j - 1 ≤ (if tTo d b = tFr d i then j else lev (tTo d b)))
    have hnb := hv b hb
    by_cases e : tTo d b = tFr d i
    · rw [if_pos e]
      by_cases e2 : b < i + 1
      · exact Or.inr (Or.inl ⟨e2, Int.le_refl _⟩)
      · exact Or.inr (Or.inr ⟨by omega, by omega⟩)
    · rw [if_neg e]
      have gb : g (tTo d b) = f (tTo d b) := by rw [hg _ hnb.2.1, if_neg e]
      rw [gb] at hF2
      by_cases e3 : b = i
      · subst e3
        rw [gfr, gto]; exact Or.inl (Int.le_refl _)
      · have l1 := le (tFr d b) hnb.1
        rcases h4 b hb hF2 with h6 | ⟨h6, h7⟩ | ⟨h6, h7⟩
        · rw [gb]; exact Or.inl (by omega)
        · exact Or.inr (Or.inl ⟨by omega, h7⟩)
        · exact Or.inr (Or.inr ⟨by omega, h7⟩)
theorem mIn.out {d : NtD} {w : Nat → Int} {t i : Nat} {f : Nat → Int} {j c : Int} (hv : tVal d) (h : mIn d w t f j i c) (hi : d.1 ≤ (i : Int)) : mHd d w t f j c := by
  obtain ⟨h1, h2, lev, h3, h4, h5⟩ := h
  have h6 : ∀ b : Nat, (b : Int) < d.1 → f (tTo d b) < 536870912 → f (tFr d b) ≤ f (tTo d b) + w b ∨ j ≤ lev (tTo d b) := by
    intro b hb hF
    rcases h4 b hb hF with h6 | ⟨_, h7⟩ | ⟨h6, _⟩
    · exact Or.inl h6
    · exact Or.inr h7
    · omega
  refine ⟨h1, h2, lev, h3, h6, fun hc b hb hF => ?_⟩
  rcases h6 b hb hF with h7 | h7
  · exact h7
  · have := h5 hc (tTo d b) (hv b hb).2.1; omega
theorem mHd.done {d : NtD} {w : Nat → Int} {t : Nat} {f : Nat → Int} {j c : Int} (hv : tVal d) (h : mHd d w t f j c) (hj : 12 ≤ j ∨ c = 0) : pDis d w t f := by
  obtain ⟨h1, h2, lev, h3, h4, h5⟩ := h
  have hf : pFea d w f := by
    rcases hj with hj | hj
    · intro b hb hF
      rcases h4 b hb hF with h6 | h6
      · exact h6
      · have a1 := h3 (tTo d b) (hv b hb).2.1
        have a2 := pRk.bd (f := f) (hv b hb).2.1
        omega
    · exact h5 hj
  exact ⟨h2, hf, h1.sup hf⟩
/-- the least of the next nodes so far; e: none yet -/
def pFo (d : NtD) (w : Nat → Int) (f : Nat → Int) (n : Nat) (e : Int) (i : Nat) (x : Int) : Prop := (x = e ∧ ∀ b, b < i → ¬ pOn d w f n b) ∨ (x ≠ e ∧ 0 ≤ x ∧ (∃ b, b < i ∧ pOn d w f n b ∧ ((tTo d b : Nat) : Int) = x) ∧ ∀ b, b < i → pOn d w f n b → x ≤ ((tTo d b : Nat) : Int))
theorem pFo.start {d : NtD} {w : Nat → Int} {f : Nat → Int} {n : Nat} {e : Int} : pFo d w f n e 0 e := Or.inl ⟨rfl, fun b hb => absurd hb (Nat.not_lt_zero b)⟩
theorem pFo.no {d : NtD} {w : Nat → Int} {f : Nat → Int} {n i : Nat} {e x : Int} (h : pFo d w f n e i x) (hi : ¬ pOn d w f n i) : pFo d w f n e (i + 1) x := by
  rcases h with ⟨h1, h2⟩ | ⟨h1, h2, ⟨b, h3, h4⟩, h5⟩
  · refine Or.inl ⟨h1, fun b hb => ?_⟩
    by_cases e9 : b = i
    · rw [e9]; exact hi
    · exact h2 b (by omega)
  · refine Or.inr ⟨h1, h2, ⟨b, by omega, h4⟩, fun c hc hc2 => ?_⟩
    by_cases e9 : c = i
    · rw [e9] at hc2; exact absurd hc2 hi
    · exact h5 c (by omega) hc2
theorem pFo.take {d : NtD} {w : Nat → Int} {f : Nat → Int} {n i : Nat} {e x y : Int} (h : pFo d w f n e i x) (hi : pOn d w f n i) (hy : y = ((tTo d i : Nat) : Int)) (hx : x = e ∨ y < x) (he : y ≠ e) : pFo d w f n e (i + 1) y := by
  subst hy
  refine Or.inr ⟨he, by omega, ⟨i, by omega, hi, rfl⟩, fun c hc hc2 => ?_⟩
  by_cases e9 : c = i
  · rw [e9]; exact Int.le_refl _
  · rcases h with ⟨h1, h2⟩ | ⟨h1, h2, _, h5⟩
    · exact absurd hc2 (h2 c (by omega))
    · have := h5 c (by omega) hc2
      rcases hx with hx | hx
      · exact absurd hx h1
      · omega
theorem pFo.keep {d : NtD} {w : Nat → Int} {f : Nat → Int} {n i : Nat} {e x : Int} (h : pFo d w f n e i x) (hx : x ≠ e) (hy : x ≤ ((tTo d i : Nat) : Int)) : pFo d w f n e (i + 1) x := by
  rcases h with ⟨h1, h2⟩ | ⟨h1, h2, ⟨b, h3, h4⟩, h5⟩
  · exact absurd h1 hx
  · refine Or.inr ⟨h1, h2, ⟨b, by omega, h4⟩, fun c hc hc2 => ?_⟩
    by_cases e9 : c = i
    · rw [e9]; exact hy
    · exact h5 c (by omega) hc2
theorem pFo.done {d : NtD} {w : Nat → Int} {f : Nat → Int} {n i : Nat} {e x : Int} (h : pFo d w f n e i x) (hi : d.1 ≤ (i : Int)) (hs : ∃ b, pOn d w f n b) : pNx d w f n x.toNat ∧ 0 ≤ x := by
  obtain ⟨b0, hb0⟩ := hs
  rcases h with ⟨h1, h2⟩ | ⟨h1, h2, ⟨b, h3, h4, h6⟩, h5⟩
  · exact absurd hb0 (h2 b0 (by have := hb0.1; omega))
  · refine ⟨⟨⟨b, h4, by omega⟩, fun c hc => ?_⟩, h2⟩
    have := h5 c (by have := hc.1; omega) hc
    omega
theorem pDis.some {d : NtD} {w : Nat → Int} {t : Nat} {f : Nat → Int} (hf : pDis d w t f) {n : Nat} (hn : n < 12) (ht : n ≠ t) (hF : f n < 536870912) : ∃ b, pOn d w f n b := by
  obtain ⟨b, h1, h2, h3, h4⟩ := hf.2.2 n hn ht hF
  exact ⟨b, h1, h2, h3, h4.symm⟩
theorem pNx.s16 {d : NtD} {t : Nat} {f : Nat → Int} (hv : tVal d) (hf : pDis d (w16 d) t f) {n r : Nat} (hn : n < 12) (hF : f n < 536870912) (h : pNx d (w16 d) f n r) : r < 12 ∧ f r < 536870912 ∧ f r % 16 = f n % 16 - 1 := by
  obtain ⟨⟨b, ⟨h1, h2, h3, h4⟩, h5⟩, _⟩ := h
  subst h5
  obtain ⟨C, k, g1, g2, g3, g4, g5⟩ := hf.p16 hv n hn hF
  obtain ⟨C1, k1, e1, e2, e3, e4, e5⟩ := hf.p16 hv _ (hv b h1).2.1 h3
  have hc := (hv b h1).2.2
  unfold w16 at h4
  exact ⟨(hv b h1).2.1, h3, by omega⟩
theorem pNx.s64 {d : NtD} {t : Nat} {f : Nat → Int} (hv : tVal d) (hf : pDis d (w64 d) t f) {n r : Nat} (hn : n < 12) (hF : f n < 536870912) (h : pNx d (w64 d) f n r) : r < 12 ∧ f r < 536870912 ∧ f r % 64 = f n % 64 - 1 := by
  obtain ⟨⟨b, ⟨h1, h2, h3, h4⟩, h5⟩, _⟩ := h
  subst h5
  obtain ⟨C, k, g1, g2, g3, g4, g5⟩ := hf.p64 hv n hn hF
  obtain ⟨C1, k1, e1, e2, e3, e4, e5⟩ := hf.p64 hv _ (hv b h1).2.1 h3
  have hc := (hv b h1).2.2
  unfold w64 at h4
  exact ⟨(hv b h1).2.1, h3, by omega⟩
theorem pWay.conv {d : NtD} {t : Nat} {f : Nat → Int} {s : Nat} (hv : tVal d) (hf : pDis d (w64 d) t f) (hs : s < 12) (hF : f s < 536870912) : ∀ i r, pWay d (w64 d) t f s i r → pWay d (w16 d) t (fun n => pCv (f n)) s i r ∧ r < 12 ∧ f r < 536870912 := by
  intro i
  induction i with
  | zero =>
    intro r h
    have h : r = s := h
    subst h
    exact ⟨rfl, hs, hF⟩
  | succ i ih =>
    intro r h
    obtain ⟨m, h3, h4, h5⟩ := h
    obtain ⟨g3, g4, g5⟩ := ih m h3
    have h6 := h5.s64 hv hf g4 g5
    exact ⟨⟨m, g3, h4, h5.conv hv hf g4 g5⟩, h6.1, h6.2.1⟩
theorem pA.far {d : NtD} {s t : Nat} {i r : Int} {f : Nat → Int} (hv : tVal d) (hf : pDis d (w64 d) t f) (hF : ¬ f s < 536870912) (h : (i = -3 ∧ r = 0) ∨ (i ≠ -3 ∧ r = -1)) : pAns d s t i r := by
  refine ⟨_, hf.conv hv, Or.inl ⟨?_, h⟩⟩
  show ¬ pCv (f s) < 536870912
  unfold pCv; rw [if_neg hF]; omega
theorem pA.near {d : NtD} {s t : Nat} {i r : Int} {f : Nat → Int} (hv : tVal d) (hf : pDis d (w64 d) t f) (hs : s < 12) (hF : f s < 536870912) (h : (i = -2 ∧ r = f s / 64) ∨ (i = -3 ∧ r = f s % 64 + 1) ∨ (i < 0 ∧ i ≠ -2 ∧ i ≠ -3 ∧ r = -1) ∨ (0 ≤ i ∧ f s % 64 < i ∧ r = -1) ∨ (0 ≤ i ∧ i ≤ f s % 64 ∧ 0 ≤ r ∧ pWay d (w64 d) t f s i.toNat r.toNat)) : pAns d s t i r := by
  obtain ⟨C, k, g1, g2, g3, g4, g5⟩ := hf.p64 hv s hs hF
  have e := pCv.at g1 g3 g4 hF
  have e1 : f s / 64 = C := by omega
  have e2 : f s % 64 = k := by omega
  have e3 : (16 * C + k) / 16 = C := by omega
  have e4 : (16 * C + k) % 16 = k := by omega
  refine ⟨_, hf.conv hv, Or.inr ⟨?_, ?_⟩⟩
  · show pCv (f s) < 536870912
    rw [e]; omega
  · show (i = -2 ∧ r = pCv (f s) / 16) ∨ (i = -3 ∧ r = pCv (f s) % 16 + 1) ∨ (i < 0 ∧ i ≠ -2 ∧ i ≠ -3 ∧ r = -1) ∨ (0 ≤ i ∧ pCv (f s) % 16 < i ∧ r = -1) ∨ (0 ≤ i ∧ i ≤ pCv (f s) % 16 ∧ 0 ≤ r ∧ pWay d (w16 d) t (fun n => pCv (f n)) s i.toNat r.toNat)
    rw [e, e3, e4]
    rw [e1, e2] at h
    rcases h with h | h | h | h | ⟨h1, h2, h3, h4⟩
    · exact Or.inl h
    · exact Or.inr (Or.inl h)
    · exact Or.inr (Or.inr (Or.inl h))
    · exact Or.inr (Or.inr (Or.inr (Or.inl h)))
    · exact Or.inr (Or.inr (Or.inr (Or.inr ⟨h1, h2, h3, (pWay.conv hv hf hs hF _ _ h4).1⟩)))
theorem dvN {x : Int32} {k : Nat} (h : 0 ≤ x.toInt) (h0 : 0 < k) (hk : k < 2 ^ 31) : (x / nI k).toInt = x.toInt / (k : Int) := by
  have hx := Int32.toInt_lt x
  have e := pk_div (a := x.toInt.toNat) (d := k) (by omega) h0 hk
  rw [nI_tz h] at e
  have hle := Nat.div_le_self x.toInt.toNat k
  rw [e, nI_toInt (by omega), Int.natCast_ediv]
  congr 1
  omega
theorem rmN {x : Int32} {k : Nat} (h : 0 ≤ x.toInt) (h0 : 0 < k) (hk : k < 2 ^ 31) : (x - x / nI k * nI k).toInt = x.toInt % (k : Int) := by
  have hx := Int32.toInt_lt x
  have e := pk_rem (a := x.toInt.toNat) (d := k) (by omega) h0 hk
  rw [nI_tz h] at e
  have hle := Nat.mod_lt x.toInt.toNat h0
  rw [e, nI_toInt (by omega), Int.natCast_emod]
  congr 1
  omega
theorem dv64 {x : Int32} (h : 0 ≤ x.toInt) : (x / 64).toInt = x.toInt / 64 := dvN (k := 64) h (by decide) (by decide)
theorem rm64 {x : Int32} (h : 0 ≤ x.toInt) : ((x - x / 64 * 64) + 1).toInt = x.toInt % 64 + 1 := by
  have e : (x - x / 64 * 64).toInt = x.toInt % 64 := rmN (k := 64) h (by decide) (by decide)
  rw [Int32.toInt_add, e, show (1 : Int32).toInt = 1 from by decide]
  exact Int.bmod_eq_of_le (by omega) (by omega)
/-- an arc on the way, of the reference -/
theorem pOn_iff {f95 f96 f97 f98 : Nat → Int32} {ar k x y n : Nat} {f : Nat → Int} (hk : k < ar) (hx : x < 12) (hy : y < 12) (ex : f95 k = nI x) (ey : f96 k = nI y) : pOn (((ar : Nat) : Int), f95, f96, f97, f98) (w64 (((ar : Nat) : Int), f95, f96, f97, f98)) f n k ↔ (x = n ∧ f y < 536870912 ∧ f y + (64 * (f98 k).toInt + 1) = f n) := by
  have e1 : tFr (((ar : Nat) : Int), f95, f96, f97, f98) k = x := by
    show (f95 k).toInt.toNat = x
    rw [ex, nI_toInt (by omega)]; omega
  have e2 : tTo (((ar : Nat) : Int), f95, f96, f97, f98) k = y := by
    show (f96 k).toInt.toNat = y
    rw [ey, nI_toInt (by omega)]; omega
  unfold pOn
  rw [e1, e2]
  constructor
  · rintro ⟨_, h2, h3, h4⟩; exact ⟨h2, h3, h4⟩
  · rintro ⟨h2, h3, h4⟩
    exact ⟨by show ((k : Nat) : Int) < ((ar : Nat) : Int); omega, h2, h3, h4⟩
theorem tTo_of {f95 f96 f97 f98 : Nat → Int32} {ar k y : Nat} (hy : y < 12) (ey : f96 k = nI y) : ((tTo (((ar : Nat) : Int), f95, f96, f97, f98) k : Nat) : Int) = ((y : Nat) : Int) := by
  show (((f96 k).toInt.toNat : Nat) : Int) = ((y : Nat) : Int)
  rw [ey, nI_toInt (by omega)]; omega
/-- what the reference has at the end of its turns -/
theorem FaO.dis {f95 f96 f97 f98 : Nat → Int32} {ar tN : Nat} {fa : Nat → Int32} (hA : ArO f95 f96 f97 f98 ar) (ht : tN < 12) (h : FaO f95 f96 f98 ar tN fa) (hc : FaC f95 f96 f98 ar fa) : pDis (((ar : Nat) : Int), f95, f96, f97, f98) (w64 (((ar : Nat) : Int), f95, f96, f97, f98)) tN (fun n => (fa n).toInt) := by
  have far : ∀ n, (fa n).toInt < 536870912 → fa n ≠ 536870912 := fun n h9 e => by rw [e] at h9; exact absurd h9 (by decide)
  have hf : pFea (((ar : Nat) : Int), f95, f96, f97, f98) (w64 (((ar : Nat) : Int), f95, f96, f97, f98)) (fun n => (fa n).toInt) := by
    intro b hb hF
    have hb2 : b < ar := by have h9 : ((b : Nat) : Int) < ((ar : Nat) : Int) := hb; omega
    obtain ⟨x, y, hx, hy, _, e1, e2, _, h3, h4⟩ := hA b hb2
    have ex : tFr (((ar : Nat) : Int), f95, f96, f97, f98) b = x := by
      show (f95 b).toInt.toNat = x
      rw [e1, nI_toInt (by omega)]; omega
    have ey : tTo (((ar : Nat) : Int), f95, f96, f97, f98) b = y := by
      show (f96 b).toInt.toNat = y
      rw [e2, nI_toInt (by omega)]; omega
    rw [ey] at hF
    rw [ex, ey]
    have h5 := hc b x y hb2 hx hy e1 e2 (far y hF)
    show (fa x).toInt ≤ (fa y).toInt + (64 * (f98 b).toInt + 1)
    omega
  refine ⟨⟨?_, fun n hn => ?_⟩, hf, pSg.sup (fun n hn hnt hF => ?_) hf⟩
  · show (fa tN).toInt = 0
    rw [h.1]; decide
  · have := h.bd hn
    exact ⟨this.1, this.2.1⟩
  · rcases h.2 n hn with h1 | ⟨_, _, h1 | ⟨a, y, g1, g2, g3, g4, g5, g6⟩⟩
    · exact absurd h1 (far n hF)
    · exact absurd h1 hnt
    · have ey : tTo (((ar : Nat) : Int), f95, f96, f97, f98) a = y := by
        show (f96 a).toInt.toNat = y
        rw [g4, nI_toInt (by omega)]; omega
      refine ⟨a, by show ((a : Nat) : Int) < ((ar : Nat) : Int); omega, ?_, ?_, ?_⟩
      · show (f95 a).toInt.toNat = n
        rw [g3, nI_toInt (by omega)]; omega
      · rw [ey]
        have h7 := h.bd g2
        have h8 := h7.2.2 g5
        show (fa y).toInt < 536870912
        omega
      · rw [ey]
        show (fa y).toInt + (64 * (f98 a).toInt + 1) ≤ (fa n).toInt
        omega
theorem fill_step {f g : Nat → Int32} {i x : Int32} (h : ∀ q : Nat, (q : Int) < i.toInt → f q = x) (h0 : 0 ≤ i.toInt) (hg : g = upd f i.toNatClampNeg x) : ∀ q : Nat, (q : Int) < i.toInt + 1 → g q = x := by
  subst hg
  intro q hq
  unfold upd
  have e0 : i.toNatClampNeg = i.toInt.toNat := rfl
  by_cases e : q = i.toNatClampNeg
  · rw [if_pos e]
  · rw [if_neg e]; exact h q (by omega)
theorem mPut {f g : Nat → Int32} {x y : Int32} {k : Nat} {v : Int} (hg : g = upd f x.toNatClampNeg y) (hx : x.toInt.toNat = k) (hy : y.toInt = v) : ∀ n, n < 12 → (g n).toInt = if n = k then v else (f n).toInt := by
  subst hg
  intro n _
  unfold upd
  have e0 : x.toNatClampNeg = k := hx
  rw [e0]
  by_cases e : n = k
  · rw [if_pos e, if_pos e]; exact hy
  · rw [if_neg e, if_neg e]
theorem mIni {f g : Nat → Int32} {x : Int32} (hf : ∀ q : Nat, q < 12 → f q = 536870912) (hg : g = upd f x.toNatClampNeg 0) : ∀ n, n < 12 → (g n).toInt = if n = x.toInt.toNat then 0 else 536870912 := by
  intro n hn
  have h := mPut (k := x.toInt.toNat) (v := 0) hg rfl (by decide) n hn
  rw [h, hf n hn]
  rfl
theorem dv16 {x : Int32} (h : 0 ≤ x.toInt) : (x / 16).toInt = x.toInt / 16 := dvN (k := 16) h (by decide) (by decide)
theorem rm16 {x : Int32} (h : 0 ≤ x.toInt) : (x - x / 16 * 16).toInt = x.toInt % 16 := rmN (k := 16) h (by decide) (by decide)
end
section
/-! tours: orders of at most 8 stops, their costs, the table of the best rests, the next order -/
theorem cntB_up {f : Nat → Bool} {i j : Nat} (h : i ≤ j) : cntB f i ≤ cntB f j := by
  induction j with
  | zero =>
    have e : i = 0 := by omega
    subst e
    exact Nat.le_refl _
  | succ j ih =>
    rcases Nat.lt_or_ge j i with h1 | h1
    · have e : i = j + 1 := by omega
      subst e
      exact Nat.le_refl _
    · have h2 := ih h1
      show cntB f i ≤ cntB f j + (if f j = true then 1 else 0)
      split <;> omega
theorem cntB_s {f : Nat → Bool} {n : Nat} (h : f n = true) : cntB f (n + 1) = cntB f n + 1 := by
  show cntB f n + (if f n = true then 1 else 0) = cntB f n + 1
  rw [if_pos h]
theorem cntB_s0 {f : Nat → Bool} {n : Nat} (h : f n = false) : cntB f (n + 1) = cntB f n := by
  show cntB f n + (if f n = true then 1 else 0) = cntB f n
  rw [if_neg (by rw [h]; decide)]
  rfl
/-- the j-th of the set bits below k -/
def tuKr (b : Nat → Bool) (j : Nat) : Nat → Nat
  | 0 => 0
  | k + 1 => if b k = true ∧ cntB b k = j then k else tuKr b j k
def tuK (b : Nat → Bool) (j : Nat) : Nat := tuKr b j 12
theorem tuKr_at {b : Nat → Bool} {x k : Nat} (hx : x < k) (h : b x = true) : tuKr b (cntB b x) k = x := by
  induction k with
  | zero => omega
  | succ k ih =>
    show (if b k = true ∧ cntB b k = cntB b x then k else tuKr b (cntB b x) k) = x
    by_cases e : k = x
    · subst e
      rw [if_pos ⟨h, rfl⟩]
    · have h1 := cntB_up (f := b) (i := x + 1) (j := k) (by omega)
      rw [cntB_s h] at h1
      rw [if_neg (fun h9 => by have h8 := h9.2; omega)]
      exact ih (by omega)
theorem tuK_at {b : Nat → Bool} {x : Nat} (hx : x < 12) (h : b x = true) : tuK b (cntB b x) = x := tuKr_at hx h
theorem tuKr_lt (b : Nat → Bool) (j k : Nat) (h : 0 < k) : tuKr b j k < k := by
  induction k with
  | zero => omega
  | succ k ih =>
    show (if b k = true ∧ cntB b k = j then k else tuKr b j k) < k + 1
    split
    · omega
    · rcases Nat.eq_zero_or_pos k with e | e
      · subst e
        exact Nat.lt_succ_self 0
      · have h1 := ih e
        omega
theorem tuK_lt (b : Nat → Bool) (j : Nat) : tuK b j < 12 := tuKr_lt b j 12 (by decide)
/-- the least cost from a to b among the first k arcs; far if there is none -/
def tuL (d : NtD) (a b : Nat) : Nat → Int
  | 0 => 536870912
  | k + 1 => if tFr d k = a ∧ tTo d k = b ∧ tCo d k < tuL d a b k then tCo d k else tuL d a b k
def tuR (x : Int) : Prop := (0 ≤ x ∧ x ≤ 1000) ∨ x = 536870912
theorem tuL_r {d : NtD} (hv : tVal d) (a b : Nat) {k : Nat} (hk : (k : Int) ≤ d.1) : tuR (tuL d a b k) := by
  induction k with
  | zero => exact Or.inr rfl
  | succ k ih =>
    show tuR (if tFr d k = a ∧ tTo d k = b ∧ tCo d k < tuL d a b k then tCo d k else tuL d a b k)
    split
    · have h1 := (hv k (by omega)).2.2
      exact Or.inl h1
    · exact ih (by omega)
theorem tuL_no {d : NtD} {a b k : Nat} (h : ¬ (tFr d k = a ∧ tTo d k = b)) : tuL d a b (k + 1) = tuL d a b k := by
  show (if tFr d k = a ∧ tTo d k = b ∧ tCo d k < tuL d a b k then tCo d k else tuL d a b k) = _
  rw [if_neg (fun h9 => h ⟨h9.1, h9.2.1⟩)]
theorem tuL_yes {d : NtD} {a b k : Nat} (h1 : tFr d k = a) (h2 : tTo d k = b) : tuL d a b (k + 1) = if tCo d k < tuL d a b k then tCo d k else tuL d a b k := by
  show (if tFr d k = a ∧ tTo d k = b ∧ tCo d k < tuL d a b k then tCo d k else tuL d a b k) = _
  by_cases h : tCo d k < tuL d a b k
  · rw [if_pos ⟨h1, h2, h⟩, if_pos h]
  · rw [if_neg (fun h9 => h h9.2.2), if_neg h]
/-- what the first k links of an order cost -/
def tuC (P : Nat → Nat → Int) (n : Nat) (o : Nat → Nat) : Nat → Int
  | 0 => 0
  | k + 1 => tuC P n o k + P (o k) (o ((k + 1) % n))
def tuP (P : Nat → Nat → Int) : Prop := ∀ a b, tuR (P a b)
def tuV (n : Nat) (o : Nat → Nat) : Prop := o 0 = 0 ∧ (∀ i, i < n → o i < n) ∧ ∀ i j, i < n → j < n → o i = o j → i = j
def tuLt (n : Nat) (o p : Nat → Nat) : Prop := ∃ i, i < n ∧ (∀ j, j < i → o j = p j) ∧ o i < p i
def tuB (P : Nat → Nat → Int) (n : Nat) (o : Nat → Nat) : Prop := tuV n o ∧ tuC P n o n < 536870912 ∧ ∀ p, tuV n p → tuC P n o n ≤ tuC P n p n ∧ (tuC P n p n = tuC P n o n → ¬ tuLt n p o)
/-- the answer of a tour of the set b (n stops, m their nodes) at i -/
def tuA (d : NtD) (b : Nat → Bool) (i r : Int) : Prop :=
  ((∀ p, tuV (cntB b 12) p → ¬ tuC (fun x y => tuL d (tuK b x) (tuK b y) d.1.toNat) (cntB b 12) p (cntB b 12) < 536870912) ∧ r = -1)
  ∨ ∃ o, tuB (fun x y => tuL d (tuK b x) (tuK b y) d.1.toNat) (cntB b 12) o ∧ ((i = -2 ∧ r = tuC (fun x y => tuL d (tuK b x) (tuK b y) d.1.toNat) (cntB b 12) o (cntB b 12)) ∨ (0 ≤ i ∧ i < (cntB b 12 : Int) ∧ r = (tuK b (o i.toNat) : Int)) ∨ (i ≠ -2 ∧ ¬ (0 ≤ i ∧ i < (cntB b 12 : Int)) ∧ r = -1))
theorem tuLt_tot {n : Nat} {o p : Nat → Nat} : tuLt n o p ∨ (∀ j, j < n → o j = p j) ∨ tuLt n p o := by
  induction n with
  | zero => exact Or.inr (Or.inl (fun j hj => absurd hj (Nat.not_lt_zero _)))
  | succ n ih =>
    rcases ih with ⟨i, h1, h2, h3⟩ | h | ⟨i, h1, h2, h3⟩
    · exact Or.inl ⟨i, by omega, h2, h3⟩
    · rcases Nat.lt_trichotomy (o n) (p n) with h4 | h4 | h4
      · exact Or.inl ⟨n, by omega, h, h4⟩
      · refine Or.inr (Or.inl (fun j hj => ?_))
        rcases Nat.lt_or_ge j n with h5 | h5
        · exact h j h5
        · rw [show j = n by omega]
          exact h4
      · exact Or.inr (Or.inr ⟨n, by omega, fun j hj => (h j hj).symm, h4⟩)
    · exact Or.inr (Or.inr ⟨i, by omega, h2, h3⟩)
theorem tuC_congr {P : Nat → Nat → Int} {n k : Nat} {o p : Nat → Nat} (hn : 0 < n) (hk : k ≤ n) (h : ∀ j, j < n → o j = p j) : tuC P n o k = tuC P n p k := by
  induction k with
  | zero => rfl
  | succ k ih =>
    show tuC P n o k + P (o k) (o ((k + 1) % n)) = tuC P n p k + P (p k) (p ((k + 1) % n))
    rw [ih (by omega), h k (by omega), h ((k + 1) % n) (Nat.mod_lt _ hn)]
/-- the first k links want the first k + 1 stops -/
theorem tuC_pre {P : Nat → Nat → Int} {n k : Nat} {o p : Nat → Nat} (hk : k < n) (h : ∀ j, j ≤ k → o j = p j) : tuC P n o k = tuC P n p k := by
  induction k with
  | zero => rfl
  | succ k ih =>
    show tuC P n o k + P (o k) (o ((k + 1) % n)) = tuC P n p k + P (p k) (p ((k + 1) % n))
    rw [ih (by omega) (fun j hj => h j (by omega)), Nat.mod_eq_of_lt hk, h k (by omega), h (k + 1) (by omega)]
theorem tuC_0 {P : Nat → Nat → Int} {n : Nat} {o : Nat → Nat} (hP : tuP P) (k : Nat) : 0 ≤ tuC P n o k := by
  induction k with
  | zero => exact Int.le_refl 0
  | succ k ih =>
    show 0 ≤ tuC P n o k + P (o k) (o ((k + 1) % n))
    have h1 := hP (o k) (o ((k + 1) % n))
    unfold tuR at h1
    omega
theorem tuC_up {P : Nat → Nat → Int} {n : Nat} {o : Nat → Nat} (hP : tuP P) {k j : Nat} (h : k ≤ j) : tuC P n o k ≤ tuC P n o j := by
  induction j with
  | zero =>
    have e : k = 0 := by omega
    subst e
    exact Int.le_refl _
  | succ j ih =>
    rcases Nat.lt_or_ge j k with h1 | h1
    · have e : k = j + 1 := by omega
      subst e
      exact Int.le_refl _
    · have h2 := ih h1
      have h3 := hP (o j) (o ((j + 1) % n))
      unfold tuR at h3
      show tuC P n o k ≤ tuC P n o j + P (o j) (o ((j + 1) % n))
      omega
/-- below far: at most 1000 a link -/
theorem tuC_bd {P : Nat → Nat → Int} {n : Nat} {o : Nat → Nat} (hP : tuP P) {k : Nat} (hk : k ≤ 8) (h : tuC P n o k < 536870912) : tuC P n o k ≤ 1000 * (k : Int) := by
  induction k with
  | zero => exact Int.le_refl 0
  | succ k ih =>
    have h3 := hP (o k) (o ((k + 1) % n))
    have h4 := tuC_0 (P := P) (n := n) (o := o) hP k
    unfold tuR at h3
    have e : tuC P n o (k + 1) = tuC P n o k + P (o k) (o ((k + 1) % n)) := rfl
    rw [e] at h ⊢
    have h5 := ih (by omega) (by omega)
    omega
/-! the stops that are left behind the k-th, as bits 0 .. n - 2 -/
def tuF (n : Nat) (o : Nat → Nat) : Nat → Nat
  | 0 => 2 ^ (n - 1) - 1
  | k + 1 => tuF n o k - 2 ^ (o (k + 1) - 1)
theorem tuOff_all : ((List.range 128).all (fun x => (List.range 7).all (fun j => (List.range 7).all (fun i => !(x.testBit j) || ((x - 2 ^ j).testBit i == (x.testBit i && decide (i ≠ j))))))) = true := by decide +kernel
theorem tuOff {x j : Nat} (hx : x < 128) (hj : j < 7) (h : x.testBit j = true) (i : Nat) : (x - 2 ^ j).testBit i = (x.testBit i && decide (i ≠ j)) := by
  rcases Nat.lt_or_ge i 7 with h1 | h1
  · have h2 := List.all_eq_true.mp (List.all_eq_true.mp (List.all_eq_true.mp tuOff_all x (List.mem_range.mpr hx)) j (List.mem_range.mpr hj)) i (List.mem_range.mpr h1)
    rw [h] at h2
    exact eq_of_beq (by simpa using h2)
  · have h3 : ∀ y, y < 128 → y.testBit i = false := fun y hy => Nat.testBit_lt_two_pow (Nat.lt_of_lt_of_le hy (show 2 ^ 7 ≤ 2 ^ i from Nat.pow_le_pow_right (by decide) h1))
    rw [h3 _ (Nat.lt_of_le_of_lt (Nat.sub_le _ _) hx), h3 _ hx, Bool.false_and]
theorem tuAll_all : ((List.range 9).all (fun n => (List.range 7).all (fun j => decide ((2 ^ (n - 1) - 1).testBit j = decide (j + 1 < n))))) = true := by decide +kernel
theorem tuAll {n j : Nat} (hn : n ≤ 8) : (2 ^ (n - 1) - 1).testBit j = decide (j + 1 < n) := by
  rcases Nat.lt_or_ge j 7 with h1 | h1
  · exact of_decide_eq_true (List.all_eq_true.mp (List.all_eq_true.mp tuAll_all n (List.mem_range.mpr (by omega))) j (List.mem_range.mpr h1))
  · have h2 : 2 ^ (n - 1) ≤ 2 ^ 7 := Nat.pow_le_pow_right (by decide) (by omega)
    have h3 : 2 ^ 7 ≤ 2 ^ j := Nat.pow_le_pow_right (by decide) h1
    have h4 : 0 < 2 ^ (n - 1) := Nat.two_pow_pos _
    rw [Nat.testBit_lt_two_pow (by omega), decide_eq_false (by omega)]
theorem tuAll_lt {n : Nat} (hn : n ≤ 8) : 2 ^ (n - 1) - 1 < 128 := by
  have h2 : 2 ^ (n - 1) ≤ 2 ^ 7 := Nat.pow_le_pow_right (by decide) (by omega)
  have h4 : 0 < 2 ^ (n - 1) := Nat.two_pow_pos _
  omega
/-- the stops up to the k-th are no two alike, of 1 .. n - 1 but the first -/
def tuW (n : Nat) (o : Nat → Nat) (k : Nat) : Prop := o 0 = 0 ∧ (∀ i, i ≤ k → o i < n) ∧ ∀ i j, i ≤ k → j ≤ k → o i = o j → i = j
theorem tuV.w {n : Nat} {o : Nat → Nat} (h : tuV n o) {k : Nat} (hk : k < n) : tuW n o k := ⟨h.1, fun i hi => h.2.1 i (by omega), fun i j hi hj e => h.2.2 i j (by omega) (by omega) e⟩
theorem tuF_bits {n : Nat} {o : Nat → Nat} (hn : n ≤ 8) {k : Nat} (h : tuW n o k) : tuF n o k < 128 ∧ ∀ j, (tuF n o k).testBit j = true ↔ (j + 1 < n ∧ ∀ t, t ≤ k → o t ≠ j + 1) := by
  induction k with
  | zero =>
    refine ⟨tuAll_lt hn, fun j => ?_⟩
    show (2 ^ (n - 1) - 1).testBit j = true ↔ _
    rw [tuAll hn, decide_eq_true_iff]
    refine ⟨fun h1 => ⟨h1, fun t ht => ?_⟩, fun h1 => h1.1⟩
    rw [show t = 0 by omega, h.1]
    omega
  | succ k ih =>
    have hw : tuW n o k := ⟨h.1, fun i hi => h.2.1 i (by omega), fun i j hi hj e => h.2.2 i j (by omega) (by omega) e⟩
    obtain ⟨h1, h2⟩ := ih hw
    have hb : o (k + 1) ≠ 0 := fun e => by
      have h9 := h.2.2 (k + 1) 0 (by omega) (by omega) (by rw [e, h.1])
      omega
    have hb2 := h.2.1 (k + 1) (Nat.le_refl _)
    have hbit : (tuF n o k).testBit (o (k + 1) - 1) = true := (h2 _).mpr ⟨by omega, fun t ht e => by
      have h9 := h.2.2 t (k + 1) (by omega) (by omega) (by omega)
      omega⟩
    have hlt : tuF n o k - 2 ^ (o (k + 1) - 1) < 128 := Nat.lt_of_le_of_lt (Nat.sub_le _ _) h1
    refine ⟨hlt, fun j => ?_⟩
    show (tuF n o k - 2 ^ (o (k + 1) - 1)).testBit j = true ↔ _
    rw [tuOff h1 (by omega) hbit, Bool.and_eq_true, h2 j, decide_eq_true_iff]
    refine ⟨fun h3 => ⟨h3.1.1, fun t ht => ?_⟩, fun h3 => ⟨⟨h3.1, fun t ht => h3.2 t (by omega)⟩, fun e => h3.2 (k + 1) (Nat.le_refl _) (by omega)⟩⟩
    rcases Nat.lt_or_ge k t with h4 | h4
    · rw [show t = k + 1 by omega]
      omega
    · exact h3.1.2 t h4
theorem tuF_cnt {n : Nat} {o : Nat → Nat} (h0 : 1 ≤ n) (hn : n ≤ 8) {k : Nat} (hk : k < n) (h : tuW n o k) : cntB (fun j => (tuF n o k).testBit j) 7 + k + 1 = n := by
  induction k with
  | zero =>
    have e : ∀ m, m ≤ 7 → cntB (fun j => (tuF n o 0).testBit j) m = if m + 1 ≤ n then m else n - 1 := by
      intro m hm
      induction m with
      | zero => rw [if_pos (by omega)]; rfl
      | succ m ih =>
        have h1 := ih (by omega)
        have h2 : (tuF n o 0).testBit m = decide (m + 1 < n) := tuAll hn
        by_cases h3 : m + 1 < n
        · rw [cntB_s (f := fun j => (tuF n o 0).testBit j) (by show (tuF n o 0).testBit m = true; rw [h2]; exact decide_eq_true h3), h1, if_pos (by omega), if_pos (by omega)]
        · rw [cntB_s0 (f := fun j => (tuF n o 0).testBit j) (by show (tuF n o 0).testBit m = false; rw [h2]; exact decide_eq_false h3), h1]
          split <;> split <;> omega
    rw [e 7 (Nat.le_refl _)]
    split <;> omega
  | succ k ih =>
    have hw : tuW n o k := ⟨h.1, fun i hi => h.2.1 i (by omega), fun i j hi hj e => h.2.2 i j (by omega) (by omega) e⟩
    have h1 := ih (by omega) hw
    obtain ⟨h2, h3⟩ := tuF_bits hn hw
    obtain ⟨_, h4⟩ := tuF_bits hn h
    have hb : o (k + 1) ≠ 0 := fun e => by
      have h9 := h.2.2 (k + 1) 0 (by omega) (by omega) (by rw [e, h.1])
      omega
    have hb2 := h.2.1 (k + 1) (Nat.le_refl _)
    have hbit : (tuF n o k).testBit (o (k + 1) - 1) = true := (h3 _).mpr ⟨by omega, fun t ht e => by
      have h9 := h.2.2 t (k + 1) (by omega) (by omega) (by omega)
      omega⟩
    have hoff : ∀ i, (tuF n o (k + 1)).testBit i = ((tuF n o k).testBit i && decide (i ≠ o (k + 1) - 1)) := fun i => tuOff h2 (by omega) hbit i
    have h5 := cntB_set (f := fun j => (tuF n o (k + 1)).testBit j) (g := fun j => (tuF n o k).testBit j) (n := 7) (a := o (k + 1) - 1) (by omega) (by
        show (tuF n o (k + 1)).testBit (o (k + 1) - 1) = false
        rw [hoff, decide_eq_false (fun h9 => h9 rfl), Bool.and_false]) (fun i => by
        show (tuF n o k).testBit i = true ↔ ((tuF n o (k + 1)).testBit i = true ∨ i = o (k + 1) - 1)
        rw [hoff, Bool.and_eq_true, decide_eq_true_iff]
        refine ⟨fun h9 => ?_, fun h9 => ?_⟩
        · by_cases e9 : i = o (k + 1) - 1
          · exact Or.inr e9
          · exact Or.inl ⟨h9, e9⟩
        · rcases h9 with h9 | h9
          · exact h9.1
          · rw [h9]
            exact hbit)
    omega
theorem cntB_0 {f : Nat → Bool} {n : Nat} (h : cntB f n = 0) : ∀ i, i < n → f i = false := by
  induction n with
  | zero => exact fun i hi => absurd hi (Nat.not_lt_zero _)
  | succ n ih =>
    cases e : f n
    · rw [cntB_s0 e] at h
      intro i hi
      rcases Nat.lt_or_ge i n with h1 | h1
      · exact ih h i h1
      · rw [show i = n by omega]
        exact e
    · rw [cntB_s e] at h
      omega
/-- an order that is done leaves nothing -/
theorem tuF_end {n : Nat} {o : Nat → Nat} (h0 : 1 ≤ n) (hn : n ≤ 8) (h : tuW n o (n - 1)) : tuF n o (n - 1) = 0 := by
  have h1 := tuF_cnt h0 hn (k := n - 1) (by omega) h
  have h2 := cntB_0 (f := fun j => (tuF n o (n - 1)).testBit j) (n := 7) (by omega)
  have h3 := (tuF_bits hn h).1
  refine Nat.eq_of_testBit_eq (fun i => ?_)
  rw [Nat.zero_testBit]
  rcases Nat.lt_or_ge i 7 with h4 | h4
  · exact h2 i h4
  · exact Nat.testBit_lt_two_pow (Nat.lt_of_lt_of_le h3 (show 2 ^ 7 ≤ 2 ^ i from Nat.pow_le_pow_right (by decide) h4))
/-- what is not done leaves something -/
theorem tuF_more {n : Nat} {o : Nat → Nat} (hn : n ≤ 8) {k : Nat} (hk : k + 1 < n) (h : tuW n o k) : tuF n o k ≠ 0 := fun e => by
  have h1 := tuF_cnt (by omega) hn (k := k) (by omega) h
  rw [e, cntB_congr (g := fun _ => false) (fun i _ => Nat.zero_testBit i)] at h1
  have h2 : cntB (fun _ => false) 7 = 0 := by decide
  omega
theorem tuV.onto {n : Nat} {o : Nat → Nat} (hn : n ≤ 8) (h : tuV n o) {x : Nat} (hx : x < n) : ∃ t, t < n ∧ o t = x := by
  rcases Nat.eq_zero_or_pos x with e | e
  · exact ⟨0, by omega, by rw [h.1, e]⟩
  · have h1 := h.w (k := n - 1) (by omega)
    have h2 := (tuF_bits hn h1).2 (x - 1)
    rw [tuF_end (by omega) hn h1, Nat.zero_testBit] at h2
    by_cases hex : ∃ t, t < n ∧ o t = x
    · exact hex
    · exact absurd (h2.mpr ⟨by omega, fun t ht e9 => hex ⟨t, by omega, by omega⟩⟩) (by decide)
theorem tuF_pre {n k : Nat} {o p : Nat → Nat} (h : ∀ j, j ≤ k → o j = p j) : tuF n o k = tuF n p k := by
  induction k with
  | zero => rfl
  | succ k ih =>
    show tuF n o k - 2 ^ (o (k + 1) - 1) = tuF n p k - 2 ^ (p (k + 1) - 1)
    rw [ih (fun j hj => h j (by omega)), h (k + 1) (Nat.le_refl _)]
/-! the table of the best rests -/
def tuMin (x y : Int) : Int := if x ≤ y then x else y
def tuG (P : Nat → Nat → Int) (F : Nat → Nat → Int) (x a b : Nat) : Int := tuMin 536870912 (P a b + F (x - 2 ^ (b - 1)) b)
def tuT (P : Nat → Nat → Int) (n : Nat) (F : Nat → Nat → Int) : Prop := ∀ x a, x < 2 ^ (n - 1) → a < n → (x = 0 → F x a = P a 0) ∧ (x ≠ 0 → F x a ≤ 536870912 ∧ (∀ b, 1 ≤ b → b < n → x.testBit (b - 1) = true → F x a ≤ tuG P F x a b) ∧ (F x a = 536870912 ∨ ∃ b, 1 ≤ b ∧ b < n ∧ x.testBit (b - 1) = true ∧ F x a = tuG P F x a b))
theorem tuF_lt {n : Nat} {o : Nat → Nat} (h0 : 1 ≤ n) : ∀ k, tuF n o k < 2 ^ (n - 1) := by
  intro k
  have h4 : 0 < 2 ^ (n - 1) := Nat.two_pow_pos _
  induction k with
  | zero => show 2 ^ (n - 1) - 1 < _; omega
  | succ k ih => exact Nat.lt_of_le_of_lt (Nat.sub_le _ _) ih
theorem tuT.low {P : Nat → Nat → Int} {n : Nat} {F : Nat → Nat → Int} (hP : tuP P) (hF : tuT P n F) (h0 : 1 ≤ n) (hn : n ≤ 8) {o : Nat → Nat} (ho : tuV n o) : ∀ m k, k + m + 1 = n → F (tuF n o k) (o k) ≤ tuC P n o n - tuC P n o k := by
  intro m
  induction m with
  | zero =>
    intro k hk
    have e : k = n - 1 := by omega
    subst e
    rw [tuF_end h0 hn (ho.w (by omega)), ((hF 0 (o (n - 1)) (Nat.two_pow_pos _) (ho.2.1 _ (by omega))).1 rfl)]
    have e2 : tuC P n o n = tuC P n o (n - 1) + P (o (n - 1)) (o 0) := by
      have e3 : tuC P n o (n - 1 + 1) = tuC P n o (n - 1) + P (o (n - 1)) (o ((n - 1 + 1) % n)) := rfl
      rw [show n - 1 + 1 = n by omega, Nat.mod_self] at e3
      exact e3
    rw [e2, ho.1]
    omega
  | succ m ih =>
    intro k hk
    have h1 := ih (k + 1) (by omega)
    have hb : o (k + 1) ≠ 0 := fun e => by
      have h9 := ho.2.2 (k + 1) 0 (by omega) (by omega) (by rw [e, ho.1])
      omega
    have hb2 := ho.2.1 (k + 1) (by omega)
    have h2 := ((hF (tuF n o k) (o k) (tuF_lt h0 k) (ho.2.1 k (by omega))).2 (tuF_more hn (by omega) (ho.w (by omega)))).2.1 (o (k + 1)) (by omega) hb2 (((tuF_bits hn (ho.w (k := k) (by omega))).2 _).mpr ⟨by omega, fun t ht e => by
      have h9 := ho.2.2 t (k + 1) (by omega) (by omega) (by omega)
      omega⟩)
    have e2 : tuC P n o (k + 1) = tuC P n o k + P (o k) (o (k + 1)) := by
      have e3 : tuC P n o (k + 1) = tuC P n o k + P (o k) (o ((k + 1) % n)) := rfl
      rw [Nat.mod_eq_of_lt (by omega)] at e3
      exact e3
    have h3 : tuG P F (tuF n o k) (o k) (o (k + 1)) ≤ P (o k) (o (k + 1)) + F (tuF n o (k + 1)) (o (k + 1)) := by
      show tuMin 536870912 (P (o k) (o (k + 1)) + F (tuF n o (k + 1)) (o (k + 1))) ≤ _
      unfold tuMin
      split <;> omega
    omega
/-! the order that the table tells -/
/-- the first of a, a + 1 .. that q holds of, f looks at most -/
def tuN (q : Nat → Bool) : Nat → Nat → Nat
  | 0, a => a
  | f + 1, a => if q a = true then a else tuN q f (a + 1)
theorem tuN_least {q : Nat → Bool} {f : Nat} : ∀ {a b : Nat}, a ≤ b → b < a + f → q b = true → q (tuN q f a) = true ∧ a ≤ tuN q f a ∧ tuN q f a ≤ b := by
  induction f with
  | zero => intro a b h1 h2; omega
  | succ f ih =>
    intro a b h1 h2 h3
    show q (if q a = true then a else tuN q f (a + 1)) = true ∧ a ≤ (if q a = true then a else tuN q f (a + 1)) ∧ (if q a = true then a else tuN q f (a + 1)) ≤ b
    by_cases e : q a = true
    · rw [if_pos e]
      exact ⟨e, Nat.le_refl _, h1⟩
    · rw [if_neg e]
      have h4 : a ≠ b := fun e2 => e (by rw [e2]; exact h3)
      have h5 := ih (a := a + 1) (b := b) (by omega) (by omega) h3
      exact ⟨h5.1, by omega, h5.2.2⟩
def tuQ (P : Nat → Nat → Int) (F : Nat → Nat → Int) (x a b : Nat) : Bool := x.testBit (b - 1) && decide (tuG P F x a b = F x a)
def tuX (P : Nat → Nat → Int) (n : Nat) (F : Nat → Nat → Int) (x a : Nat) : Nat := tuN (tuQ P F x a) (n - 1) 1
/-- (what is left, the stop) behind k steps -/
def tuS (P : Nat → Nat → Int) (n : Nat) (F : Nat → Nat → Int) : Nat → Nat × Nat
  | 0 => (2 ^ (n - 1) - 1, 0)
  | k + 1 => ((tuS P n F k).1 - 2 ^ (tuX P n F (tuS P n F k).1 (tuS P n F k).2 - 1), tuX P n F (tuS P n F k).1 (tuS P n F k).2)
def tuO (P : Nat → Nat → Int) (n : Nat) (F : Nat → Nat → Int) (k : Nat) : Nat := (tuS P n F k).2
theorem tuS_left (P : Nat → Nat → Int) (n : Nat) (F : Nat → Nat → Int) (k : Nat) : (tuS P n F k).1 = tuF n (tuO P n F) k := by
  induction k with
  | zero => rfl
  | succ k ih =>
    show (tuS P n F k).1 - 2 ^ (tuX P n F (tuS P n F k).1 (tuS P n F k).2 - 1) = tuF n (tuO P n F) k - 2 ^ (tuO P n F (k + 1) - 1)
    rw [ih]
    show _ = tuF n (tuO P n F) k - 2 ^ (tuX P n F (tuS P n F k).1 (tuS P n F k).2 - 1)
    rw [ih]
theorem tuO_next (P : Nat → Nat → Int) (n : Nat) (F : Nat → Nat → Int) (k : Nat) : tuO P n F (k + 1) = tuX P n F (tuF n (tuO P n F) k) (tuO P n F k) := by
  show tuX P n F (tuS P n F k).1 (tuS P n F k).2 = _
  rw [tuS_left]
  rfl
/-- as far as k: no two alike, the rest is what the table says -/
theorem tuO_ok {P : Nat → Nat → Int} {n : Nat} {F : Nat → Nat → Int} (hP : tuP P) (hF : tuT P n F) (h0 : 1 ≤ n) (hn : n ≤ 8) (hlt : F (2 ^ (n - 1) - 1) 0 < 536870912) : ∀ k, k < n → tuW n (tuO P n F) k ∧ tuC P n (tuO P n F) k + F (tuF n (tuO P n F) k) (tuO P n F k) = F (2 ^ (n - 1) - 1) 0 := by
  intro k
  induction k with
  | zero =>
    intro hk
    refine ⟨⟨rfl, fun i hi => ?_, fun i j hi hj _ => by omega⟩, ?_⟩
    · rw [show i = 0 by omega]
      exact h0
    · show 0 + F (2 ^ (n - 1) - 1) 0 = _
      omega
  | succ k ih =>
    intro hk
    obtain ⟨hw, hc⟩ := ih (by omega)
    have hc0 := tuC_0 (P := P) (n := n) (o := tuO P n F) hP k
    have hT := (hF (tuF n (tuO P n F) k) (tuO P n F k) (tuF_lt h0 k) (hw.2.1 k (Nat.le_refl _))).2 (tuF_more hn (by omega) hw)
    obtain ⟨b, hb1, hb2, hb3, hb4⟩ := hT.2.2.resolve_left (fun h9 => by omega)
    have hq : tuQ P F (tuF n (tuO P n F) k) (tuO P n F k) b = true := by
      unfold tuQ
      rw [hb3, decide_eq_true hb4.symm]
      rfl
    have hN := tuN_least (f := n - 1) (a := 1) (b := b) hb1 (by omega) hq
    have hN2 : tuQ P F (tuF n (tuO P n F) k) (tuO P n F k) (tuO P n F (k + 1)) = true ∧ 1 ≤ tuO P n F (k + 1) ∧ tuO P n F (k + 1) ≤ b := by
      rw [tuO_next]
      exact hN
    obtain ⟨hq2, hx1, hx2⟩ := hN2
    unfold tuQ at hq2
    rw [Bool.and_eq_true, decide_eq_true_iff] at hq2
    have hbit := ((tuF_bits hn hw).2 _).mp hq2.1
    refine ⟨⟨rfl, fun i hi => ?_, fun i j hi hj e => ?_⟩, ?_⟩
    · rcases Nat.lt_or_ge k i with h1 | h1
      · rw [show i = k + 1 by omega]
        omega
      · exact hw.2.1 i h1
    · rcases Nat.lt_or_ge k i with h1 | h1
      · rcases Nat.lt_or_ge k j with h2 | h2
        · omega
        · rw [show i = k + 1 by omega] at e
          exact absurd e.symm (fun e9 => hbit.2 j h2 (by omega))
      · rcases Nat.lt_or_ge k j with h2 | h2
        · rw [show j = k + 1 by omega] at e
          exact absurd e (fun e9 => hbit.2 i h1 (by omega))
        · exact hw.2.2 i j h1 h2 e
    · have e2 : tuC P n (tuO P n F) (k + 1) = tuC P n (tuO P n F) k + P (tuO P n F k) (tuO P n F (k + 1)) := by
        have e3 : tuC P n (tuO P n F) (k + 1) = tuC P n (tuO P n F) k + P (tuO P n F k) (tuO P n F ((k + 1) % n)) := rfl
        rw [Nat.mod_eq_of_lt (by omega)] at e3
        exact e3
      have h3 : tuG P F (tuF n (tuO P n F) k) (tuO P n F k) (tuO P n F (k + 1)) = tuMin 536870912 (P (tuO P n F k) (tuO P n F (k + 1)) + F (tuF n (tuO P n F) (k + 1)) (tuO P n F (k + 1))) := rfl
      have h4 := hq2.2
      rw [h3] at h4
      unfold tuMin at h4
      split at h4 <;> omega
theorem tuO_v {P : Nat → Nat → Int} {n : Nat} {F : Nat → Nat → Int} (hP : tuP P) (hF : tuT P n F) (h0 : 1 ≤ n) (hn : n ≤ 8) (hlt : F (2 ^ (n - 1) - 1) 0 < 536870912) : tuV n (tuO P n F) := by
  obtain ⟨hw, _⟩ := tuO_ok hP hF h0 hn hlt (n - 1) (by omega)
  exact ⟨rfl, fun i hi => hw.2.1 i (by omega), fun i j hi hj e => hw.2.2 i j (by omega) (by omega) e⟩
theorem tuO_c {P : Nat → Nat → Int} {n : Nat} {F : Nat → Nat → Int} (hP : tuP P) (hF : tuT P n F) (h0 : 1 ≤ n) (hn : n ≤ 8) (hlt : F (2 ^ (n - 1) - 1) 0 < 536870912) : tuC P n (tuO P n F) n = F (2 ^ (n - 1) - 1) 0 := by
  obtain ⟨hw, hc⟩ := tuO_ok hP hF h0 hn hlt (n - 1) (by omega)
  rw [tuF_end h0 hn hw, ((hF 0 (tuO P n F (n - 1)) (Nat.two_pow_pos _) (hw.2.1 _ (Nat.le_refl _))).1 rfl)] at hc
  have e3 : tuC P n (tuO P n F) (n - 1 + 1) = tuC P n (tuO P n F) (n - 1) + P (tuO P n F (n - 1)) (tuO P n F ((n - 1 + 1) % n)) := rfl
  rw [show n - 1 + 1 = n by omega, Nat.mod_self] at e3
  rw [e3]
  exact hc
theorem tuO_best {P : Nat → Nat → Int} {n : Nat} {F : Nat → Nat → Int} (hP : tuP P) (hF : tuT P n F) (h0 : 1 ≤ n) (hn : n ≤ 8) (hlt : F (2 ^ (n - 1) - 1) 0 < 536870912) : tuB P n (tuO P n F) := by
  have hv := tuO_v hP hF h0 hn hlt
  have hc := tuO_c hP hF h0 hn hlt
  refine ⟨hv, by rw [hc]; exact hlt, fun p hp => ?_⟩
  have hlow := tuT.low hP hF h0 hn hp (n - 1) 0 (by omega)
  have e0 : F (tuF n p 0) (p 0) = F (2 ^ (n - 1) - 1) 0 := by rw [hp.1]; rfl
  have e1 : tuC P n p 0 = 0 := rfl
  rw [e0, e1] at hlow
  refine ⟨by omega, fun hce ⟨i, hi, hpre, hless⟩ => ?_⟩
  have hi0 : i ≠ 0 := fun e => by
    rw [e, hp.1, hv.1] at hless
    omega
  obtain ⟨k, rfl⟩ : ∃ k, i = k + 1 := ⟨i - 1, by omega⟩
  obtain ⟨hw, hck⟩ := tuO_ok hP hF h0 hn hlt k (by omega)
  have hsame : ∀ j, j ≤ k → p j = tuO P n F j := fun j hj => hpre j (by omega)
  have h1 := tuT.low hP hF h0 hn hp (n - 1 - (k + 1)) (k + 1) (by omega)
  have h2 : tuC P n p (k + 1) = tuC P n (tuO P n F) k + P (tuO P n F k) (p (k + 1)) := by
    have e3 : tuC P n p (k + 1) = tuC P n p k + P (p k) (p ((k + 1) % n)) := rfl
    rw [Nat.mod_eq_of_lt (by omega), tuC_pre (by omega) hsame, hsame k (Nat.le_refl _)] at e3
    exact e3
  have h3 : tuF n p (k + 1) = tuF n (tuO P n F) k - 2 ^ (p (k + 1) - 1) := by
    show tuF n p k - 2 ^ (p (k + 1) - 1) = _
    rw [tuF_pre hsame]
  have hb : p (k + 1) ≠ 0 := fun e => by
    have h9 := hp.2.2 (k + 1) 0 (by omega) (by omega) (by rw [e, hp.1])
    omega
  have hb2 := hp.2.1 (k + 1) (by omega)
  have hbit : (tuF n (tuO P n F) k).testBit (p (k + 1) - 1) = true := by
    rw [← tuF_pre hsame]
    exact ((tuF_bits hn (hp.w (k := k) (by omega))).2 _).mpr ⟨by omega, fun t ht e => by
      have h9 := hp.2.2 t (k + 1) (by omega) (by omega) (by omega)
      omega⟩
  have hT := (hF (tuF n (tuO P n F) k) (tuO P n F k) (tuF_lt h0 k) (hw.2.1 k (Nat.le_refl _))).2 (tuF_more hn (by omega) hw)
  have h4 := hT.2.1 (p (k + 1)) (by omega) hb2 hbit
  have h5 : tuG P F (tuF n (tuO P n F) k) (tuO P n F k) (p (k + 1)) = tuMin 536870912 (P (tuO P n F k) (p (k + 1)) + F (tuF n p (k + 1)) (p (k + 1))) := by rw [h3]; rfl
  have h6 : tuG P F (tuF n (tuO P n F) k) (tuO P n F k) (p (k + 1)) = F (tuF n (tuO P n F) k) (tuO P n F k) := by
    have hc0 := tuC_0 (P := P) (n := n) (o := tuO P n F) hP k
    rw [h5] at h4 ⊢
    unfold tuMin at h4 ⊢
    split at h4 <;> rename_i h7
    · rw [if_pos h7]
      omega
    · rw [if_neg h7]
      omega
  have hN := tuN_least (q := tuQ P F (tuF n (tuO P n F) k) (tuO P n F k)) (f := n - 1) (a := 1) (b := p (k + 1)) (by omega) (by omega) (by
    unfold tuQ
    rw [hbit, decide_eq_true h6]
    rfl)
  have h8 : tuO P n F (k + 1) ≤ p (k + 1) := by
    rw [tuO_next]
    exact hN.2.2
  omega
theorem tuB.eq {P : Nat → Nat → Int} {n : Nat} {o p : Nat → Nat} (h1 : tuB P n o) (h2 : tuB P n p) : (∀ j, j < n → o j = p j) ∧ tuC P n o n = tuC P n p n := by
  have a1 := h1.2.2 p h2.1
  have a2 := h2.2.2 o h1.1
  have e : tuC P n o n = tuC P n p n := by omega
  refine ⟨?_, e⟩
  rcases tuLt_tot (n := n) (o := o) (p := p) with h | h | h
  · exact absurd h (a2.2 e)
  · exact h
  · exact absurd h (a1.2 e.symm)
theorem tuA.eq {d : NtD} {b : Nat → Bool} {i r s : Int} (h1 : tuA d b i r) (h2 : tuA d b i s) : r = s := by
  rcases h1 with ⟨n1, e1⟩ | ⟨o, ho, a1⟩
  · rcases h2 with ⟨_, e2⟩ | ⟨p, hp, _⟩
    · omega
    · exact absurd hp.2.1 (n1 p hp.1)
  · rcases h2 with ⟨n2, _⟩ | ⟨p, hp, a2⟩
    · exact absurd ho.2.1 (n2 o ho.1)
    · obtain ⟨he, hc⟩ := ho.eq hp
      rcases a1 with ⟨i1, r1⟩ | ⟨i1, j1, r1⟩ | ⟨i1, j1, r1⟩
      · rcases a2 with ⟨i2, r2⟩ | ⟨i2, j2, r2⟩ | ⟨i2, j2, r2⟩
        · exact r1.trans (hc.trans r2.symm)
        · omega
        · omega
      · rcases a2 with ⟨i2, r2⟩ | ⟨i2, j2, r2⟩ | ⟨i2, j2, r2⟩
        · omega
        · rw [r1, r2, he i.toNat (by omega)]
        · omega
      · rcases a2 with ⟨i2, r2⟩ | ⟨i2, j2, r2⟩ | ⟨i2, j2, r2⟩
        · omega
        · omega
        · omega
theorem tuPd {d : NtD} (hv : tVal d) (h0 : 0 ≤ d.1) (b : Nat → Bool) : tuP (fun x y => tuL d (tuK b x) (tuK b y) d.1.toNat) := fun x y => tuL_r hv _ _ (by omega)
/-! what a table tells -/
theorem tuA.none {d : NtD} {b : Nat → Bool} {F : Nat → Nat → Int} {i r : Int} (hv : tVal d) (h0 : 0 ≤ d.1) (hn1 : 1 ≤ cntB b 12) (hn8 : cntB b 12 ≤ 8) (hF : tuT (fun x y => tuL d (tuK b x) (tuK b y) d.1.toNat) (cntB b 12) F) (hf : ¬ F (2 ^ (cntB b 12 - 1) - 1) 0 < 536870912) (hr : r = -1) : tuA d b i r := by
  refine Or.inl ⟨fun p hp hlt => hf ?_, hr⟩
  have hlow := tuT.low (tuPd hv h0 b) hF hn1 hn8 hp (cntB b 12 - 1) 0 (by omega)
  have e0 : F (tuF (cntB b 12) p 0) (p 0) = F (2 ^ (cntB b 12 - 1) - 1) 0 := by rw [hp.1]; rfl
  have e1 : tuC (fun x y => tuL d (tuK b x) (tuK b y) d.1.toNat) (cntB b 12) p 0 = 0 := rfl
  rw [e0, e1] at hlow
  omega
theorem tuA.cost {d : NtD} {b : Nat → Bool} {F : Nat → Nat → Int} {i r : Int} (hv : tVal d) (h0 : 0 ≤ d.1) (hn1 : 1 ≤ cntB b 12) (hn8 : cntB b 12 ≤ 8) (hF : tuT (fun x y => tuL d (tuK b x) (tuK b y) d.1.toNat) (cntB b 12) F) (hf : F (2 ^ (cntB b 12 - 1) - 1) 0 < 536870912) (hi : i = -2) (hr : r = F (2 ^ (cntB b 12 - 1) - 1) 0) : tuA d b i r :=
  Or.inr ⟨_, tuO_best (tuPd hv h0 b) hF hn1 hn8 hf, Or.inl ⟨hi, hr.trans (tuO_c (tuPd hv h0 b) hF hn1 hn8 hf).symm⟩⟩
theorem tuA.out {d : NtD} {b : Nat → Bool} {F : Nat → Nat → Int} {i r : Int} (hv : tVal d) (h0 : 0 ≤ d.1) (hn1 : 1 ≤ cntB b 12) (hn8 : cntB b 12 ≤ 8) (hF : tuT (fun x y => tuL d (tuK b x) (tuK b y) d.1.toNat) (cntB b 12) F) (hf : F (2 ^ (cntB b 12 - 1) - 1) 0 < 536870912) (hi : i ≠ -2) (hi2 : ¬ (0 ≤ i ∧ i < (cntB b 12 : Int))) (hr : r = -1) : tuA d b i r :=
  Or.inr ⟨_, tuO_best (tuPd hv h0 b) hF hn1 hn8 hf, Or.inr (Or.inr ⟨hi, hi2, hr⟩)⟩
theorem tuA.stop {d : NtD} {b : Nat → Bool} {F : Nat → Nat → Int} {i r : Int} (hv : tVal d) (h0 : 0 ≤ d.1) (hn1 : 1 ≤ cntB b 12) (hn8 : cntB b 12 ≤ 8) (hF : tuT (fun x y => tuL d (tuK b x) (tuK b y) d.1.toNat) (cntB b 12) F) (hf : F (2 ^ (cntB b 12 - 1) - 1) 0 < 536870912) (hi : 0 ≤ i ∧ i < (cntB b 12 : Int)) (hr : r = (tuK b (tuO (fun x y => tuL d (tuK b x) (tuK b y) d.1.toNat) (cntB b 12) F i.toNat) : Int)) : tuA d b i r :=
  Or.inr ⟨_, tuO_best (tuPd hv h0 b) hF hn1 hn8 hf, Or.inr (Or.inl ⟨hi.1, hi.2, hr⟩)⟩
/-! one order after the other -/
theorem tuLt.tr {n : Nat} {a b c : Nat → Nat} (h1 : tuLt n a b) (h2 : tuLt n b c) : tuLt n a c := by
  obtain ⟨i, hi, e1, l1⟩ := h1
  obtain ⟨j, hj, e2, l2⟩ := h2
  rcases Nat.lt_trichotomy i j with h | h | h
  · exact ⟨i, hi, fun t ht => (e1 t ht).trans (e2 t (by omega)), by rw [← e2 i h]; exact l1⟩
  · subst h
    exact ⟨i, hi, fun t ht => (e1 t ht).trans (e2 t ht), by omega⟩
  · exact ⟨j, hj, fun t ht => (e1 t (by omega)).trans (e2 t ht), by rw [e1 j h]; exact l2⟩
theorem tuLt.irr {n : Nat} {o : Nat → Nat} (h : tuLt n o o) : False := by
  obtain ⟨i, _, _, h⟩ := h
  exact Nat.lt_irrefl _ h
theorem tuLt.cg {n : Nat} {o p q : Nat → Nat} (h : tuLt n o p) (e : ∀ j, j < n → q j = o j) : tuLt n q p := by
  obtain ⟨i, hi, e1, l1⟩ := h
  exact ⟨i, hi, fun t ht => (e t (by omega)).trans (e1 t ht), by rw [e i hi]; exact l1⟩
theorem tuDesc {n k : Nat} {o : Nat → Nat} (h : ∀ t, k < t → t + 1 < n → o (t + 1) < o t) {s t : Nat} (hs : k < s) (hst : s ≤ t) (ht : t < n) : o t ≤ o s := by
  induction t with
  | zero => omega
  | succ t ih =>
    rcases Nat.lt_or_ge t s with h1 | h1
    · rw [show t + 1 = s by omega]
      exact Nat.le_refl _
    · have h2 := ih h1 (by omega)
      have h3 := h t (by omega) ht
      omega
theorem tuAsc {n k : Nat} {o : Nat → Nat} (h : ∀ t, k < t → t + 1 < n → o t < o (t + 1)) {s t : Nat} (hs : k < s) (hst : s ≤ t) (ht : t < n) : o s ≤ o t := by
  induction t with
  | zero => omega
  | succ t ih =>
    rcases Nat.lt_or_ge t s with h1 | h1
    · rw [show t + 1 = s by omega]
      exact Nat.le_refl _
    · have h2 := ih h1 (by omega)
      have h3 := h t (by omega) ht
      omega
/-- a value of p at i stands in o behind i, where both are alike ahead of i -/
theorem tuIn {n : Nat} {o p : Nat → Nat} (hn : n ≤ 8) (ho : tuV n o) (hp : tuV n p) {i : Nat} (hi : i < n) (hpre : ∀ j, j < i → o j = p j) : ∃ t, i ≤ t ∧ t < n ∧ o t = p i := by
  obtain ⟨t, ht, et⟩ := ho.onto hn (hp.2.1 i hi)
  refine ⟨t, ?_, ht, et⟩
  rcases Nat.lt_or_ge t i with h1 | h1
  · have h2 := hpre t h1
    have h3 := hp.2.2 t i ht hi (by omega)
    omega
  · exact h1
theorem tuNo {n k : Nat} {o p : Nat → Nat} (hn : n ≤ 8) (ho : tuV n o) (hp : tuV n p) (hd : ∀ t, k < t → t + 1 < n → o (t + 1) < o t) {i : Nat} (hk : k < i) (hi : i < n) (hpre : ∀ j, j < i → o j = p j) (hl : o i < p i) : False := by
  obtain ⟨t, h1, h2, h3⟩ := tuIn hn ho hp hi hpre
  have h4 := tuDesc hd hk h1 h2
  omega
theorem tuNo2 {n k : Nat} {g p : Nat → Nat} (hn : n ≤ 8) (hg : tuV n g) (hp : tuV n p) (ha : ∀ t, k < t → t + 1 < n → g t < g (t + 1)) {i : Nat} (hk : k < i) (hi : i < n) (hpre : ∀ j, j < i → p j = g j) (hl : p i < g i) : False := by
  obtain ⟨t, h1, h2, h3⟩ := tuIn hn hg hp hi (fun j hj => (hpre j hj).symm)
  have h4 := tuAsc ha hk h1 h2
  omega
theorem tuNx {n k : Nat} {o g p : Nat → Nat} (hn : n ≤ 8) (ho : tuV n o) (hg : tuV n g) (hp : tuV n p) (hpre : ∀ j, j < k → g j = o j) (hmin : ∀ t, k < t → t < n → o k < o t → g k ≤ o t) (hd : ∀ t, k < t → t + 1 < n → o (t + 1) < o t) (ha : ∀ t, k < t → t + 1 < n → g t < g (t + 1)) (h : tuLt n p g) : tuLt n p o ∨ ∀ j, j < n → p j = o j := by
  rcases tuLt_tot (n := n) (o := p) (p := o) with h1 | h1 | ⟨i, hi, hq, hl⟩
  · exact Or.inl h1
  · exact Or.inr h1
  · exfalso
    obtain ⟨i2, hi2, hq2, hl2⟩ := h
    rcases Nat.lt_trichotomy i k with hik | hik | hik
    · rcases Nat.lt_trichotomy i2 i with h3 | h3 | h3
      · have a1 := hq i2 h3
        have b1 := hpre i2 (by omega)
        omega
      · subst h3
        have b1 := hpre i2 hik
        omega
      · have a1 := hq2 i h3
        have b1 := hpre i hik
        omega
    · subst hik
      obtain ⟨t, h4, ht, et⟩ := tuIn hn ho hp hi hq
      have h6 : t ≠ i := fun e => by
        rw [e] at et
        omega
      have h5 := hmin t (by omega) ht (by omega)
      rcases Nat.lt_trichotomy i2 i with h3 | h3 | h3
      · have a1 := hq i2 h3
        have b1 := hpre i2 h3
        omega
      · subst h3
        omega
      · exact tuNo2 hn hg hp ha h3 hi2 hq2 hl2
    · exact tuNo hn ho hp hd hik hi hq hl
/-- be: the least cost of the orders of D (-1: none), tb its nodes, the first such -/
def tuH (P : Nat → Nat → Int) (n : Nat) (M : Nat → Nat) (D : (Nat → Nat) → Prop) (be : Int) (tb : Nat → Int) : Prop := (be = -1 ∧ ∀ p, tuV n p → D p → ¬ tuC P n p n < 536870912) ∨ ∃ q, tuV n q ∧ D q ∧ tuC P n q n = be ∧ be < 536870912 ∧ (∀ j, j < n → tb j = (M (q j) : Int)) ∧ ∀ p, tuV n p → D p → be ≤ tuC P n p n ∧ (tuC P n p n = be → ¬ tuLt n p q)
def tuD (n : Nat) (o p : Nat → Nat) : Prop := tuLt n p o ∨ ∀ j, j < n → p j = o j
theorem tuH.start {P : Nat → Nat → Int} {n : Nat} {M : Nat → Nat} {o : Nat → Nat} {be : Int} {tb : Nat → Int} (ho : ∀ j, j < n → o j = j) (hb : be = -1) : tuH P n M (fun p => tuLt n p o) be tb := by
  refine Or.inl ⟨hb, fun p hp ⟨i, hi, hpre, hl⟩ => ?_⟩
  have h1 := ho i hi
  have h2 := hpre (p i) (by omega)
  rw [ho (p i) (by omega)] at h2
  have h3 := hp.2.2 (p i) i (by omega) hi h2
  omega
theorem tuH.far {P : Nat → Nat → Int} {n : Nat} {M : Nat → Nat} {o : Nat → Nat} {be : Int} {tb : Nat → Int} (hn : 0 < n) (h : tuH P n M (fun p => tuLt n p o) be tb) (hc : ¬ tuC P n o n < 536870912) : tuH P n M (tuD n o) be tb := by
  rcases h with ⟨h1, h2⟩ | ⟨q, h1, h2, h3, h4, h5, h6⟩
  · refine Or.inl ⟨h1, fun p hp hd => ?_⟩
    rcases hd with hd | hd
    · exact h2 p hp hd
    · rw [tuC_congr hn (Nat.le_refl _) hd]
      exact hc
  · refine Or.inr ⟨q, h1, Or.inl h2, h3, h4, h5, fun p hp hd => ?_⟩
    rcases hd with hd | hd
    · exact h6 p hp hd
    · have e := tuC_congr (P := P) hn (Nat.le_refl n) hd
      exact ⟨by omega, fun h9 => by omega⟩
theorem tuH.more {P : Nat → Nat → Int} {n : Nat} {M : Nat → Nat} {o : Nat → Nat} {be : Int} {tb : Nat → Int} (hn : 0 < n) (h : tuH P n M (fun p => tuLt n p o) be tb) (hb : be ≠ -1) (hc : ¬ tuC P n o n < be) : tuH P n M (tuD n o) be tb := by
  rcases h with ⟨h1, h2⟩ | ⟨q, h1, h2, h3, h4, h5, h6⟩
  · exact absurd h1 hb
  · refine Or.inr ⟨q, h1, Or.inl h2, h3, h4, h5, fun p hp hd => ?_⟩
    rcases hd with hd | hd
    · exact h6 p hp hd
    · have e := tuC_congr (P := P) hn (Nat.le_refl n) hd
      refine ⟨by omega, fun _ h9 => ?_⟩
      exact (tuLt.tr h2 (h9.cg (fun j hj => (hd j hj).symm))).irr
theorem tuH.less {P : Nat → Nat → Int} {n : Nat} {M : Nat → Nat} {o : Nat → Nat} {be c : Int} {tb tb2 : Nat → Int} (hP : tuP P) (hn : 0 < n) (ho : tuV n o) (h : tuH P n M (fun p => tuLt n p o) be tb) (hc : c = tuC P n o n) (hf : c < 536870912) (hb : be = -1 ∨ c < be) (ht : ∀ j, j < n → tb2 j = (M (o j) : Int)) : tuH P n M (tuD n o) c tb2 := by
  refine Or.inr ⟨o, ho, Or.inr (fun j _ => rfl), hc.symm, hf, ht, fun p hp hd => ?_⟩
  rcases hd with hd | hd
  · rcases h with ⟨h1, h2⟩ | ⟨q, h1, h2, h3, h4, h5, h6⟩
    · have h9 := h2 p hp hd
      exact ⟨by omega, fun h8 => by omega⟩
    · have h9 := (h6 p hp hd).1
      rcases hb with hb | hb
      · have h10 := tuC_0 (P := P) (n := n) (o := q) hP n
        omega
      · exact ⟨by omega, fun h8 => by omega⟩
  · have e := tuC_congr (P := P) hn (Nat.le_refl n) hd
    exact ⟨by omega, fun _ h9 => (h9.cg (fun j hj => (hd j hj).symm)).irr⟩
theorem tuH.next {P : Nat → Nat → Int} {n k : Nat} {M : Nat → Nat} {o g : Nat → Nat} {be : Int} {tb : Nat → Int} (hn : n ≤ 8) (ho : tuV n o) (hg : tuV n g) (hk : k < n) (hpre : ∀ j, j < k → g j = o j) (hlt : o k < g k) (hmin : ∀ t, k < t → t < n → o k < o t → g k ≤ o t) (hd : ∀ t, k < t → t + 1 < n → o (t + 1) < o t) (ha : ∀ t, k < t → t + 1 < n → g t < g (t + 1)) (h : tuH P n M (tuD n o) be tb) : tuH P n M (fun p => tuLt n p g) be tb := by
  have hog : tuLt n o g := ⟨k, hk, fun j hj => (hpre j hj).symm, hlt⟩
  rcases h with ⟨h1, h2⟩ | ⟨q, h1, h2, h3, h4, h5, h6⟩
  · exact Or.inl ⟨h1, fun p hp hd9 => h2 p hp (tuNx hn ho hg hp hpre hmin hd ha hd9)⟩
  · refine Or.inr ⟨q, h1, ?_, h3, h4, h5, fun p hp hd9 => h6 p hp (tuNx hn ho hg hp hpre hmin hd ha hd9)⟩
    rcases h2 with h2 | h2
    · exact h2.tr hog
    · exact hog.cg h2
theorem tuH.last {P : Nat → Nat → Int} {n : Nat} {M : Nat → Nat} {o : Nat → Nat} {be : Int} {tb : Nat → Int} (hn : n ≤ 8) (ho : tuV n o) (hd : ∀ t, 0 < t → t + 1 < n → o (t + 1) < o t) (h : tuH P n M (tuD n o) be tb) : tuH P n M (fun _ => True) be tb := by
  have hall : ∀ p, tuV n p → tuD n o p := fun p hp => by
    rcases tuLt_tot (n := n) (o := p) (p := o) with h1 | h1 | ⟨i, hi, hq, hl⟩
    · exact Or.inl h1
    · exact Or.inr h1
    · exfalso
      rcases Nat.eq_zero_or_pos i with e | e
      · rw [e, hp.1, ho.1] at hl
        omega
      · exact tuNo hn ho hp hd e hi hq hl
  rcases h with ⟨h1, h2⟩ | ⟨q, h1, h2, h3, h4, h5, h6⟩
  · exact Or.inl ⟨h1, fun p hp _ => h2 p hp (hall p hp)⟩
  · exact Or.inr ⟨q, h1, trivial, h3, h4, h5, fun p hp _ => h6 p hp (hall p hp)⟩
theorem tuH.ans {d : NtD} {b : Nat → Bool} {be i r : Int} {tb : Nat → Int} (hv : tVal d) (h0 : 0 ≤ d.1) (h : tuH (fun x y => tuL d (tuK b x) (tuK b y) d.1.toNat) (cntB b 12) (tuK b) (fun _ => True) be tb) (hr : (i = -2 ∧ r = be) ∨ (i ≠ -2 ∧ (be = -1 ∨ i < 0 ∨ (cntB b 12 : Int) ≤ i) ∧ r = -1) ∨ (be ≠ -1 ∧ 0 ≤ i ∧ i < (cntB b 12 : Int) ∧ r = tb i.toNat)) : tuA d b i r := by
  rcases h with ⟨h1, h2⟩ | ⟨q, h1, _, h3, h4, h5, h6⟩
  · refine Or.inl ⟨fun p hp => h2 p hp trivial, ?_⟩
    rcases hr with hr | hr | hr <;> omega
  · have hB : tuB (fun x y => tuL d (tuK b x) (tuK b y) d.1.toNat) (cntB b 12) q := ⟨h1, by rw [h3]; exact h4, fun p hp => by
      have h9 := h6 p hp trivial
      rw [h3]
      exact h9⟩
    refine Or.inr ⟨q, hB, ?_⟩
    rcases hr with ⟨hr, hr2⟩ | ⟨hr, hr2, hr3⟩ | ⟨hr, hr2, hr3, hr4⟩
    · exact Or.inl ⟨hr, by rw [hr2, h3]⟩
    · by_cases hbe : be = -1
      · have h10 := tuC_0 (n := cntB b 12) (o := q) (tuPd hv h0 b) (cntB b 12)
        omega
      · exact Or.inr (Or.inr ⟨hr, by omega, hr3⟩)
    · exact Or.inr (Or.inl ⟨hr2, hr3, by rw [hr4]; exact h5 _ (by omega)⟩)
end
section
/-! the reference's tours: links, costs of an order, the next order, the bits -/
def tuE (x : Int32) (L : Int) : Prop := (x.toInt = -1 ∧ L = 536870912) ∨ (0 ≤ x.toInt ∧ x.toInt ≤ 1000 ∧ x.toInt = L)
theorem tuE.no1 {ar : Int} {f t r c : Nat → Int32} {aI : Int32} {b k : Nat} {cq : Int32} (h : tuE cq (tuL (ar, f, t, r, c) aI.toInt.toNat b k)) (ha : 0 ≤ aI.toInt) (hf : 0 ≤ (f k).toInt) (hne : (f k).toInt ≠ aI.toInt) : tuE cq (tuL (ar, f, t, r, c) aI.toInt.toNat b (k + 1)) := by
  rw [tuL_no (fun h9 => by have h8 : (f k).toInt.toNat = aI.toInt.toNat := h9.1; omega)]
  exact h
theorem tuE.no2 {ar : Int} {f t r c : Nat → Int32} {bJ : Int32} {a k : Nat} {cq : Int32} (h : tuE cq (tuL (ar, f, t, r, c) a bJ.toInt.toNat k)) (ha : 0 ≤ bJ.toInt) (hf : 0 ≤ (t k).toInt) (hne : (t k).toInt ≠ bJ.toInt) : tuE cq (tuL (ar, f, t, r, c) a bJ.toInt.toNat (k + 1)) := by
  rw [tuL_no (fun h9 => by have h8 : (t k).toInt.toNat = bJ.toInt.toNat := h9.2; omega)]
  exact h
theorem tuE.take {ar : Int} {f t r c : Nat → Int32} {aI bJ : Int32} {k : Nat} {cq : Int32} (h : tuE cq (tuL (ar, f, t, r, c) aI.toInt.toNat bJ.toInt.toNat k)) (hf : (f k).toInt = aI.toInt) (ht : (t k).toInt = bJ.toInt) (hc : 0 ≤ (c k).toInt ∧ (c k).toInt ≤ 1000) (hx : cq.toInt = -1 ∨ ¬ (c k).toInt ≥ cq.toInt) : tuE (c k) (tuL (ar, f, t, r, c) aI.toInt.toNat bJ.toInt.toNat (k + 1)) := by
  have e1 : tFr (ar, f, t, r, c) k = aI.toInt.toNat := by show (f k).toInt.toNat = _; rw [hf]
  have e2 : tTo (ar, f, t, r, c) k = bJ.toInt.toNat := by show (t k).toInt.toNat = _; rw [ht]
  have e3 : tCo (ar, f, t, r, c) k = (c k).toInt := rfl
  unfold tuE at h
  rw [tuL_yes e1 e2, e3, if_pos (by omega)]
  exact Or.inr ⟨hc.1, hc.2, rfl⟩
theorem tuE.keep {ar : Int} {f t r c : Nat → Int32} {aI bJ : Int32} {k : Nat} {cq : Int32} (h : tuE cq (tuL (ar, f, t, r, c) aI.toInt.toNat bJ.toInt.toNat k)) (hf : (f k).toInt = aI.toInt) (ht : (t k).toInt = bJ.toInt) (hx : ¬ cq.toInt = -1) (hy : (c k).toInt ≥ cq.toInt) : tuE cq (tuL (ar, f, t, r, c) aI.toInt.toNat bJ.toInt.toNat (k + 1)) := by
  have e1 : tFr (ar, f, t, r, c) k = aI.toInt.toNat := by show (f k).toInt.toNat = _; rw [hf]
  have e2 : tTo (ar, f, t, r, c) k = bJ.toInt.toNat := by show (t k).toInt.toNat = _; rw [ht]
  have e3 : tCo (ar, f, t, r, c) k = (c k).toInt := rfl
  have h2 := h
  unfold tuE at h2
  rw [tuL_yes e1 e2, e3, if_neg (by omega)]
  exact h
def tuOf (f : Nat → Int32) (i : Nat) : Nat := (f i).toInt.toNat
theorem tuOf_v {n : Nat} {f : Nat → Int32} (hB : Bo f) (hn : n ≤ 8) (hI : Io n f) (hr : ∀ i, i < n → (f i).toInt < (n : Int)) (h0 : (f 0).toInt = 0) : tuV n (tuOf f) := by
  refine ⟨?_, fun i hi => ?_, fun i j hi hj e => hI i j hi hj ?_⟩
  · show (f 0).toInt.toNat = 0
    rw [h0]
    rfl
  · have h1 := hr i hi
    have h2 := hB i (by omega)
    show (f i).toInt.toNat < n
    omega
  · have h1 := hB i (by omega)
    have h2 := hB j (by omega)
    have e2 : (f i).toInt.toNat = (f j).toInt.toNat := e
    exact Int32.toInt_inj.mp (by omega)
/-! the next order -/
theorem tuDs {f : Nat → Int32} {n k : Nat} (hB : Bo f) (hn : n ≤ 8) (h : ∀ t, k < t → t + 1 < n → tuOf f (t + 1) < tuOf f t) (hk : 0 < k) (hlt : ¬ (f k).toInt ≤ (f (k + 1)).toInt) : ∀ t, k - 1 < t → t + 1 < n → tuOf f (t + 1) < tuOf f t := by
  intro t h1 h2
  rcases Nat.lt_or_ge k t with h3 | h3
  · exact h t h3 h2
  · have e : t = k := by omega
    subst e
    have h4 := hB (t + 1) (by omega)
    show (f (t + 1)).toInt.toNat < (f t).toInt.toNat
    omega
def tuSw (f : Nat → Int32) (k j i : Nat) : Int32 := if i = j then f k else if i = k then f j else f i
def tuRv (n k a b : Nat) (s g : Nat → Int32) : Prop := a + b = k + n ∧ (∀ t, a ≤ t → t ≤ b → g t = s t) ∧ (∀ t, k < t → t < n → (t < a ∨ b < t) → g t = s (k + n - t)) ∧ ∀ t, t ≤ k → g t = s t
theorem tuRv.start {n k j : Nat} {f : Nat → Int32} (hk : k < j) (hj : j < n) (hn : n ≤ 8) : tuRv n k (k + 1) (n - 1) (tuSw f k j) (upd (upd f (nI k).toNatClampNeg (f j)) (nI j).toNatClampNeg (f k)) := by
  have e : ∀ t, upd (upd f (nI k).toNatClampNeg (f j)) (nI j).toNatClampNeg (f k) t = tuSw f k j t := fun t => sw_at (by omega) (by omega) t
  exact ⟨by omega, fun t _ _ => e t, fun t h1 h2 h3 => by omega, fun t _ => e t⟩
theorem tuRv.step {n k a b : Nat} {s g : Nat → Int32} (h : tuRv n k a b s g) (hka : k < a) (hab : ¬ ((a : Nat) : Int) ≥ ((b : Nat) : Int)) (hb : b < n) (hn : n ≤ 8) : tuRv n k (a + 1) (b - 1) s (upd (upd g (nI a).toNatClampNeg (g b)) (nI b).toNatClampNeg (g a)) := by
  obtain ⟨h1, h2, h3, h4⟩ := h
  have e : ∀ t, upd (upd g (nI a).toNatClampNeg (g b)) (nI b).toNatClampNeg (g a) t = if t = b then g a else if t = a then g b else g t := fun t => sw_at (by omega) (by omega) t
  refine ⟨by omega, fun t h5 h6 => ?_, fun t h5 h6 h7 => ?_, fun t h5 => ?_⟩
  · rw [e, if_neg (by omega), if_neg (by omega)]
    exact h2 t (by omega) (by omega)
  · rw [e]
    by_cases e1 : t = b
    · rw [if_pos e1, h2 a (Nat.le_refl _) (by omega), show k + n - t = a by omega]
    · rw [if_neg e1]
      by_cases e2 : t = a
      · rw [if_pos e2, h2 b (by omega) (Nat.le_refl _), show k + n - t = b by omega]
      · rw [if_neg e2]
        exact h3 t h5 h6 (by omega)
  · rw [e, if_neg (by omega), if_neg (by omega)]
    exact h4 t h5
theorem tuRv.done {n k a b : Nat} {s g : Nat → Int32} (h : tuRv n k a b s g) (hab : ((a : Nat) : Int) ≥ ((b : Nat) : Int)) {t : Nat} (h5 : k < t) (h6 : t < n) : g t = s (k + n - t) := by
  obtain ⟨h1, h2, h3, h4⟩ := h
  by_cases h7 : t < a ∨ b < t
  · exact h3 t h5 h6 h7
  · rw [h2 t (by omega) (by omega), show k + n - t = t by omega]
def tuZ (n k : Nat) (o g : Nat → Nat) : Prop := k < n ∧ (∀ j, j < k → g j = o j) ∧ o k < g k ∧ (∀ t, k < t → t < n → o k < o t → g k ≤ o t) ∧ (∀ t, k < t → t + 1 < n → o (t + 1) < o t) ∧ ∀ t, k < t → t + 1 < n → g t < g (t + 1)
theorem tuZ.of {n k j a b : Nat} {f g : Nat → Int32} (hB : Bo f) (hI : Io n f) (hn : n ≤ 8) (hk : k + 1 ≤ j ∧ j < n) (hds : ∀ t, k < t → t + 1 < n → tuOf f (t + 1) < tuOf f t) (hjs : ∀ t, j < t → t < n → (f t).toInt < (f k).toInt) (hj : (f j).toInt ≥ (f k).toInt) (hrv : tuRv n k a b (tuSw f k j) g) (hab : ((a : Nat) : Int) ≥ ((b : Nat) : Int)) : tuZ n k (tuOf f) (tuOf g) := by
  have hne : (f j).toInt ≠ (f k).toInt := fun e => by
    have h9 := hI j k (by omega) (by omega) (Int32.toInt_inj.mp e)
    omega
  have hk0 := hB k (by omega)
  have hgk : g k = f j := by
    rw [hrv.2.2.2 k (Nat.le_refl _)]
    show (if k = j then f k else if k = k then f j else f k) = f j
    rw [if_neg (by omega), if_pos rfl]
  refine ⟨by omega, fun t ht => ?_, ?_, fun t h1 h2 h3 => ?_, hds, fun t h1 h2 => ?_⟩
  · show (g t).toInt.toNat = (f t).toInt.toNat
    rw [hrv.2.2.2 t (by omega)]
    show (if t = j then f k else if t = k then f j else f t).toInt.toNat = _
    rw [if_neg (by omega), if_neg (by omega)]
  · show (f k).toInt.toNat < (g k).toInt.toNat
    rw [hgk]
    omega
  · show (g k).toInt.toNat ≤ (f t).toInt.toNat
    rw [hgk]
    rcases Nat.lt_or_ge j t with h4 | h4
    · have h5 := hjs t h4 h2
      have h6 : (f k).toInt.toNat < (f t).toInt.toNat := h3
      omega
    · exact tuDesc hds h1 h4 (by omega)
  · show (g t).toInt.toNat < (g (t + 1)).toInt.toNat
    rw [hrv.done hab h1 (by omega), hrv.done hab (t := t + 1) (by omega) h2]
    obtain ⟨u, eu⟩ : ∃ u, k + n - (t + 1) = u := ⟨_, rfl⟩
    rw [eu, show k + n - t = u + 1 by omega]
    have hu := hB u (by omega)
    have hu1 := hB (u + 1) (by omega)
    have hd : (f (u + 1)).toInt.toNat < (f u).toInt.toNat := hds u (by omega) (by omega)
    show (if u + 1 = j then f k else if u + 1 = k then f j else f (u + 1)).toInt.toNat < (if u = j then f k else if u = k then f j else f u).toInt.toNat
    rw [if_neg (show ¬ u + 1 = k by omega), if_neg (show ¬ u = k by omega)]
    by_cases e1 : u + 1 = j
    · rw [if_pos e1, if_neg (by omega)]
      rw [e1] at hd
      omega
    · rw [if_neg e1]
      by_cases e2 : u = j
      · rw [if_pos e2]
        have h5 := hjs (u + 1) (by omega) (by omega)
        omega
      · rw [if_neg e2]
        exact hd
theorem sw_R {g : Nat → Int32} {a b K : Nat} (ha : a < K) (hb : b < K) (hK : K ≤ 8) (h : ∀ i, i < K → (g i).toInt < (K : Int)) : ∀ i, i < K → (upd (upd g (nI a).toNatClampNeg (g b)) (nI b).toNatClampNeg (g a) i).toInt < (K : Int) := fun i hi => by
  rw [sw_at (by omega) (by omega)]
  split
  · exact h a ha
  · split
    · exact h b hb
    · exact h i hi
/-! the bits of a set -/
theorem bI_nI {n i : Nat} (hi : i < 32) : bI (nI n) i = n.testBit i := by
  show (BitVec.ofNat 32 n).getLsbD i = _
  rw [BitVec.getLsbD_ofNat, decide_eq_true hi, Bool.true_and]
theorem cnt_B {n i : Nat} (hi : i ≤ 12) : cnt n i = cntB (bI (nI n)) i := by
  induction i with
  | zero => rfl
  | succ i ih =>
    rw [cnt_succ, ih (by omega)]
    cases e : bI (nI n) i
    · rw [cntB_s0 e]
      rw [bI_nI (by omega), Nat.testBit_eq_decide_div_mod_eq] at e
      have h1 := of_decide_eq_false e
      omega
    · rw [cntB_s e]
      rw [bI_nI (by omega), Nat.testBit_eq_decide_div_mod_eq] at e
      have h1 := of_decide_eq_true e
      omega
theorem bI_yes {n i : Nat} (hi : i < 12) (h : ((n / 2 ^ i % 2 : Nat) : Int) ≠ 0) : bI (nI n) i = true := by
  rw [bI_nI (by omega), Nat.testBit_eq_decide_div_mod_eq]
  exact decide_eq_true (by omega)
/-- one stop more -/
theorem tuMem {b : Nat → Bool} {i K : Nat} {g : Nat → Int32} (hi : i < 12) (hb : b i = true) (hK : K = cntB b i) (hK8 : K < 8) (h : ∀ j, j < K → g j = nI (tuK b j)) : ∀ j, j < K + 1 → upd g (nI K).toNatClampNeg (nI i) j = nI (tuK b j) := fun j hj => by
  rw [upd_at (by omega)]
  by_cases e : j = K
  · rw [if_pos e, e, hK, tuK_at hi hb]
  · rw [if_neg e]
    exact h j (by omega)
theorem tuE.at {r : Int32} {x y k : Nat} {d : NtD} (h : tuE r (tuL d (nI x).toInt.toNat (nI y).toInt.toNat k)) (hx : x < 12) (hy : y < 12) : tuE r (tuL d x y k) := by
  rw [nI_toInt (by omega), nI_toInt (by omega)] at h
  exact h
def tuSu (P : Nat → Nat → Int) (n : Nat) (o : Nat → Nat) (k : Nat) (su : Int32) : Prop := su.toInt = tuC P n o k ∧ 0 ≤ tuC P n o k ∧ tuC P n o k ≤ 1000 * (k : Int)
theorem tuSu.step {P : Nat → Nat → Int} {n k : Nat} {o : Nat → Nat} {su r : Int32} (h : tuSu P n o k su) (hk : k < 8) (hr : tuE r (P (o k) (o ((k + 1) % n)))) (hne : r.toInt ≠ -1) : tuSu P n o (k + 1) (su + r) := by
  obtain ⟨h1, h2, h3⟩ := h
  have e : tuC P n o (k + 1) = tuC P n o k + P (o k) (o ((k + 1) % n)) := rfl
  unfold tuE at hr
  have h4 : (su + r).toInt = su.toInt + r.toInt := addB (by omega) (by omega)
  refine ⟨?_, ?_, ?_⟩
  · rw [h4, e]
    omega
  · rw [e]
    omega
  · rw [e]
    omega
theorem tuSu.far {P : Nat → Nat → Int} {n k : Nat} {o : Nat → Nat} {su r : Int32} (hP : tuP P) (h : tuSu P n o k su) (hr : tuE r (P (o k) (o ((k + 1) % n)))) (he : r.toInt = -1) (hk : k < n) : ¬ tuC P n o n < 536870912 := by
  obtain ⟨h1, h2, h3⟩ := h
  have e : tuC P n o (k + 1) = tuC P n o k + P (o k) (o ((k + 1) % n)) := rfl
  have h4 := tuC_up (P := P) (n := n) (o := o) hP (k := k + 1) (j := n) (by omega)
  unfold tuE at hr
  omega
end
section
theorem dX12_arc_0 : decode cX12_arc 0 = .ok (.iload_n 1, 1) := dk_27 (by decide +kernel)
theorem dX12_arc_1 : decode cX12_arc 1 = .ok (.invokestatic 1066, 3) := dk_184 (by decide +kernel)
theorem dX12_arc_4 : decode cX12_arc 4 = .ok (.ifCond .eq 43, 3) := dk_153 (by decide +kernel)
theorem dX12_arc_7 : decode cX12_arc 7 = .ok (.iload_n 2, 1) := dk_28 (by decide +kernel)
theorem dX12_arc_8 : decode cX12_arc 8 = .ok (.invokestatic 1066, 3) := dk_184 (by decide +kernel)
theorem dX12_arc_11 : decode cX12_arc 11 = .ok (.ifCond .eq 36, 3) := dk_153 (by decide +kernel)
theorem dX12_arc_14 : decode cX12_arc 14 = .ok (.iload_n 1, 1) := dk_27 (by decide +kernel)
theorem dX12_arc_15 : decode cX12_arc 15 = .ok (.iload_n 2, 1) := dk_28 (by decide +kernel)
theorem dX12_arc_16 : decode cX12_arc 16 = .ok (.if_icmp .eq 31, 3) := dk_159 (by decide +kernel)
theorem dX12_arc_19 : decode cX12_arc 19 = .ok (.iload_n 3, 1) := dk_29 (by decide +kernel)
theorem dX12_arc_20 : decode cX12_arc 20 = .ok (.ifCond .lt 27, 3) := dk_155 (by decide +kernel)
theorem dX12_arc_23 : decode cX12_arc 23 = .ok (.iload_n 3, 1) := dk_29 (by decide +kernel)
theorem dX12_arc_24 : decode cX12_arc 24 = .ok (.sipush 1000, 3) := dk_17 (by decide +kernel)
theorem dX12_arc_27 : decode cX12_arc 27 = .ok (.if_icmp .gt 20, 3) := dk_163 (by decide +kernel)
theorem dX12_arc_30 : decode cX12_arc 30 = .ok (.iload 4, 2) := dk_21 (by decide +kernel)
theorem dX12_arc_32 : decode cX12_arc 32 = .ok (.ifCond .lt 15, 3) := dk_155 (by decide +kernel)
theorem dX12_arc_35 : decode cX12_arc 35 = .ok (.iload 4, 2) := dk_21 (by decide +kernel)
theorem dX12_arc_37 : decode cX12_arc 37 = .ok (.sipush 1000, 3) := dk_17 (by decide +kernel)
theorem dX12_arc_40 : decode cX12_arc 40 = .ok (.if_icmp .gt 7, 3) := dk_163 (by decide +kernel)
theorem dX12_arc_43 : decode cX12_arc 43 = .ok (.iconst 1, 1) := dk_4 (by decide +kernel)
theorem dX12_arc_44 : decode cX12_arc 44 = .ok (.goto 4, 3) := dk_167 (by decide +kernel)
theorem dX12_arc_47 : decode cX12_arc 47 = .ok (.iconst 0, 1) := dk_3 (by decide +kernel)
theorem dX12_arc_48 : decode cX12_arc 48 = .ok (.istore 5, 2) := dk_54 (by decide +kernel)
theorem dX12_arc_50 : decode cX12_arc 50 = .ok (.aload_n 0, 1) := dk_42 (by decide +kernel)
theorem dX12_arc_51 : decode cX12_arc 51 = .ok (.iload 5, 2) := dk_21 (by decide +kernel)
theorem dX12_arc_53 : decode cX12_arc 53 = .ok (.ifCond .ne 7, 3) := dk_154 (by decide +kernel)
theorem dX12_arc_56 : decode cX12_arc 56 = .ok (.iconst 1, 1) := dk_4 (by decide +kernel)
theorem dX12_arc_57 : decode cX12_arc 57 = .ok (.goto 17, 3) := dk_167 (by decide +kernel)
theorem dX12_arc_60 : decode cX12_arc 60 = .ok (.aload_n 0, 1) := dk_42 (by decide +kernel)
theorem dX12_arc_61 : decode cX12_arc 61 = .ok (.getfield 1069, 3) := dk_180 (by decide +kernel)
theorem dX12_arc_64 : decode cX12_arc 64 = .ok (.bipush 40, 2) := dk_16 (by decide +kernel)
theorem dX12_arc_66 : decode cX12_arc 66 = .ok (.if_icmp .ne 7, 3) := dk_160 (by decide +kernel)
theorem dX12_arc_69 : decode cX12_arc 69 = .ok (.iconst 2, 1) := dk_5 (by decide +kernel)
theorem dX12_arc_70 : decode cX12_arc 70 = .ok (.goto 4, 3) := dk_167 (by decide +kernel)
theorem dX12_arc_73 : decode cX12_arc 73 = .ok (.iconst 0, 1) := dk_3 (by decide +kernel)
theorem dX12_arc_74 : decode cX12_arc 74 = .ok (.putfield 348, 3) := dk_181 (by decide +kernel)
theorem dX12_arc_77 : decode cX12_arc 77 = .ok (.aload_n 0, 1) := dk_42 (by decide +kernel)
theorem dX12_arc_78 : decode cX12_arc 78 = .ok (.getfield 348, 3) := dk_180 (by decide +kernel)
theorem dX12_arc_81 : decode cX12_arc 81 = .ok (.ifCond .le 5, 3) := dk_158 (by decide +kernel)
theorem dX12_arc_84 : decode cX12_arc 84 = .ok (.iconst 0, 1) := dk_3 (by decide +kernel)
theorem dX12_arc_85 : decode cX12_arc 85 = .ok (.ireturn, 1) := dk_172 (by decide +kernel)
theorem dX12_arc_86 : decode cX12_arc 86 = .ok (.aload_n 0, 1) := dk_42 (by decide +kernel)
theorem dX12_arc_87 : decode cX12_arc 87 = .ok (.getfield 312, 3) := dk_180 (by decide +kernel)
theorem dX12_arc_90 : decode cX12_arc 90 = .ok (.aload_n 0, 1) := dk_42 (by decide +kernel)
theorem dX12_arc_91 : decode cX12_arc 91 = .ok (.getfield 1069, 3) := dk_180 (by decide +kernel)
theorem dX12_arc_94 : decode cX12_arc 94 = .ok (.iload_n 1, 1) := dk_27 (by decide +kernel)
theorem dX12_arc_95 : decode cX12_arc 95 = .ok (.iastore, 1) := dk_79 (by decide +kernel)
theorem dX12_arc_96 : decode cX12_arc 96 = .ok (.aload_n 0, 1) := dk_42 (by decide +kernel)
theorem dX12_arc_97 : decode cX12_arc 97 = .ok (.getfield 315, 3) := dk_180 (by decide +kernel)
theorem dX12_arc_100 : decode cX12_arc 100 = .ok (.aload_n 0, 1) := dk_42 (by decide +kernel)
theorem dX12_arc_101 : decode cX12_arc 101 = .ok (.getfield 1069, 3) := dk_180 (by decide +kernel)
theorem dX12_arc_104 : decode cX12_arc 104 = .ok (.iload_n 2, 1) := dk_28 (by decide +kernel)
theorem dX12_arc_105 : decode cX12_arc 105 = .ok (.iastore, 1) := dk_79 (by decide +kernel)
theorem dX12_arc_106 : decode cX12_arc 106 = .ok (.aload_n 0, 1) := dk_42 (by decide +kernel)
theorem dX12_arc_107 : decode cX12_arc 107 = .ok (.getfield 318, 3) := dk_180 (by decide +kernel)
theorem dX12_arc_110 : decode cX12_arc 110 = .ok (.aload_n 0, 1) := dk_42 (by decide +kernel)
theorem dX12_arc_111 : decode cX12_arc 111 = .ok (.getfield 1069, 3) := dk_180 (by decide +kernel)
theorem dX12_arc_114 : decode cX12_arc 114 = .ok (.iload_n 3, 1) := dk_29 (by decide +kernel)
theorem dX12_arc_115 : decode cX12_arc 115 = .ok (.iastore, 1) := dk_79 (by decide +kernel)
theorem dX12_arc_116 : decode cX12_arc 116 = .ok (.aload_n 0, 1) := dk_42 (by decide +kernel)
theorem dX12_arc_117 : decode cX12_arc 117 = .ok (.getfield 321, 3) := dk_180 (by decide +kernel)
theorem dX12_arc_120 : decode cX12_arc 120 = .ok (.aload_n 0, 1) := dk_42 (by decide +kernel)
theorem dX12_arc_121 : decode cX12_arc 121 = .ok (.getfield 1069, 3) := dk_180 (by decide +kernel)
theorem dX12_arc_124 : decode cX12_arc 124 = .ok (.iload 4, 2) := dk_21 (by decide +kernel)
theorem dX12_arc_126 : decode cX12_arc 126 = .ok (.iastore, 1) := dk_79 (by decide +kernel)
theorem dX12_arc_127 : decode cX12_arc 127 = .ok (.aload_n 0, 1) := dk_42 (by decide +kernel)
theorem dX12_arc_128 : decode cX12_arc 128 = .ok (.dup, 1) := dk_89 (by decide +kernel)
theorem dX12_arc_129 : decode cX12_arc 129 = .ok (.getfield 1069, 3) := dk_180 (by decide +kernel)
theorem dX12_arc_132 : decode cX12_arc 132 = .ok (.iconst 1, 1) := dk_4 (by decide +kernel)
theorem dX12_arc_133 : decode cX12_arc 133 = .ok (.iadd, 1) := dk_96 (by decide +kernel)
theorem dX12_arc_134 : decode cX12_arc 134 = .ok (.putfield 1069, 3) := dk_181 (by decide +kernel)
theorem dX12_arc_137 : decode cX12_arc 137 = .ok (.aload_n 0, 1) := dk_42 (by decide +kernel)
theorem dX12_arc_138 : decode cX12_arc 138 = .ok (.getfield 1069, 3) := dk_180 (by decide +kernel)
theorem dX12_arc_141 : decode cX12_arc 141 = .ok (.iconst 1, 1) := dk_4 (by decide +kernel)
theorem dX12_arc_142 : decode cX12_arc 142 = .ok (.isub, 1) := dk_100 (by decide +kernel)
theorem dX12_arc_143 : decode cX12_arc 143 = .ok (.ireturn, 1) := dk_172 (by decide +kernel)
def wsRX12_arc : List Cond := .code yX12_arc cX12_arc 6 (some .int) :: ([.fieldLink RX12 348 "OptimaWorksModel" "thrown" "I", .fieldLink RX12 1069 "OptimaWorksModel" "arcs" "I", .fieldLink RX12 312 "OptimaWorksModel" "arcFrom" "[I", .fieldLink RX12 315 "OptimaWorksModel" "arcTo" "[I", .fieldLink RX12 318 "OptimaWorksModel" "arcRoom" "[I", .fieldLink RX12 321 "OptimaWorksModel" "arcCost" "[I"] ++ wsX120 ++ (va_wsS RX12 1066 yX12_isPlace wsRX12_isPlace))
theorem iwsRX12_arc_in12 : ∀ w ∈ wsX120, w ∈ wsRX12_arc := fun _ h => List.mem_cons_of_mem _ (List.mem_append_left _ (List.mem_append_right _ h))
theorem gwsRX12_arc_0 : GoodIn wsRX12_arc (va_wsS RX12 1066 yX12_isPlace wsRX12_isPlace) := goodIn_sub (fun _ h => List.mem_cons_of_mem _ (List.mem_append_right _ h)) (gdS (by decide +kernel) gdwsRX12_isPlace)
theorem gdwsRX12_arc : wsRX12_arc.all goodWord = true := gdC rfl (gdA (gdA (by decide +kernel : ([.fieldLink RX12 348 "OptimaWorksModel" "thrown" "I", .fieldLink RX12 1069 "OptimaWorksModel" "arcs" "I", .fieldLink RX12 312 "OptimaWorksModel" "arcFrom" "[I", .fieldLink RX12 315 "OptimaWorksModel" "arcTo" "[I", .fieldLink RX12 318 "OptimaWorksModel" "arcRoom" "[I", .fieldLink RX12 321 "OptimaWorksModel" "arcCost" "[I"] : List Cond).all goodWord = true) gdwsX120) (gdS (by decide +kernel) gdwsRX12_isPlace))
theorem hm_r_X12_arc_0 : (.fieldLink RX12 348 "OptimaWorksModel" "thrown" "I" : Cond) ∈ wsRX12_arc := by decide +kernel
theorem hm_r_X12_arc_1 : (.fieldLink RX12 1069 "OptimaWorksModel" "arcs" "I" : Cond) ∈ wsRX12_arc := by decide +kernel
set_option maxHeartbeats 4000000 in
set_option maxRecDepth 100000 in
/-- arc(a, b, room, price) -/
theorem r_X12_arc (l : Launch) (dC : Nat → ClassId) (dI : Nat → Nat → Nat) (a : Nat → Nat) (k : Nat → ClassId) (h0 : Nat) (vi : Nat → Int32) (vj : Nat → Int64) (vF : Nat → Nat → Int32) (vG : Nat → Nat → Int64) (aI : Int32) (bI : Int32) (rI : Int32) (pI : Int32) (ar : Nat) (har : vi 150 = nI ar) (har40 : ar ≤ 40) (hAr : ArO (vF 95) (vF 96) (vF 97) (vF 98) ar) (sz : Nat) : Met l yX12_arc wsRX12_arc ({ frames := 1, cells := 0, slots := 0, locals := 20 }) (va_Pc [.ref h0, .int aI, .int bI, .int rI, .int pI] (fun U => U.heap.size = sz ∧ va_P (dC, dI) vwCl (WR a k h0 vi vj vF vG) U.heap ∧ va_K (dC, dI) vwCl (tX12 k) U ∧ va_D (fun _ => True) (WR a k h0 vi vj vF vG))) (va_Qi (fun (r : Int32) (u : (Int32) × (Nat) × (Nat → Int32) × (Nat → Int32) × (Nat → Int32) × (Nat → Int32)) => (((u.2.1) ≤ 40) ∧ (ArO (u.2.2.1) (u.2.2.2.1) (u.2.2.2.2.1) (u.2.2.2.2.2) (u.2.1)) ∧ ((u.1) = 1) ∧ (¬ (0 ≤ (aI).toInt ∧ (aI).toInt ≤ 11 ∧ 0 ≤ (bI).toInt ∧ (bI).toInt ≤ 11 ∧ (aI).toInt ≠ (bI).toInt ∧ 0 ≤ (rI).toInt ∧ (rI).toInt ≤ 1000 ∧ 0 ≤ (pI).toInt ∧ (pI).toInt ≤ 1000)) ∧ (((((u.2.1) : Nat) : Int), (u.2.2.1), (u.2.2.2.1), (u.2.2.2.2.1), (u.2.2.2.2.2)) = (((ar : Nat) : Int), vF 95, vF 96, vF 97, vF 98))) ∨ (((u.2.1) ≤ 40) ∧ (ArO (u.2.2.1) (u.2.2.2.1) (u.2.2.2.2.1) (u.2.2.2.2.2) (u.2.1)) ∧ ((u.1) = 2) ∧ ((0 ≤ (aI).toInt ∧ (aI).toInt ≤ 11 ∧ 0 ≤ (bI).toInt ∧ (bI).toInt ≤ 11 ∧ (aI).toInt ≠ (bI).toInt ∧ 0 ≤ (rI).toInt ∧ (rI).toInt ≤ 1000 ∧ 0 ≤ (pI).toInt ∧ (pI).toInt ≤ 1000) ∧ ar = 40) ∧ (((((u.2.1) : Nat) : Int), (u.2.2.1), (u.2.2.2.1), (u.2.2.2.2.1), (u.2.2.2.2.2)) = (((ar : Nat) : Int), vF 95, vF 96, vF 97, vF 98))) ∨ (((u.2.1) ≤ 40) ∧ (ArO (u.2.2.1) (u.2.2.2.1) (u.2.2.2.2.1) (u.2.2.2.2.2) (u.2.1)) ∧ ((u.1) = 0) ∧ ((0 ≤ (aI).toInt ∧ (aI).toInt ≤ 11 ∧ 0 ≤ (bI).toInt ∧ (bI).toInt ≤ 11 ∧ (aI).toInt ≠ (bI).toInt ∧ 0 ≤ (rI).toInt ∧ (rI).toInt ≤ 1000 ∧ 0 ≤ (pI).toInt ∧ (pI).toInt ≤ 1000) ∧ ar < 40) ∧ (((((u.2.1) : Nat) : Int), (u.2.2.1), (u.2.2.2.1), (u.2.2.2.2.1), (u.2.2.2.2.2)) = ntAdd (((ar : Nat) : Int), vF 95, vF 96, vF 97, vF 98) aI bI rI pI) ∧ (r.toInt = ((ar : Nat) : Int)))) (fun (u : (Int32) × (Nat) × (Nat → Int32) × (Nat → Int32) × (Nat → Int32) × (Nat → Int32)) t => va_P (dC, dI) vwCl (WR a k h0 (fT (fT vi 0 (u.1)) 150 (nI (u.2.1))) vj (fT (fT (fT (fT vF 95 (u.2.2.1)) 96 (u.2.2.2.1)) 97 (u.2.2.2.2.1)) 98 (u.2.2.2.2.2)) vG) t.heap ∧ va_D (va_A (WR a k h0 vi vj vF vG) sz) (WR a k h0 (fT (fT vi 0 (u.1)) 150 (nI (u.2.1))) vj (fT (fT (fT (fT vF 95 (u.2.2.1)) 96 (u.2.2.2.1)) 97 (u.2.2.2.2.1)) 98 (u.2.2.2.2.2)) vG)) (va_A (WR a k h0 vi vj vF vG) sz)) 0 0 (va_A (WR a k h0 vi vj vF vG) sz) := by
  refine Met.ofW (cc := cX12_arc) (maxL := 6) (ret := (some .int)) (by decide) rfl ?_
  intro p e s m args below meth c s₁ B hml hv
  obtain ⟨rfl, hsz, hP, hK, hD0⟩ := hv
  have hx := B.exec
  have hb := B.bytes
  have hr := B.returns
  have hts := atoms_spec (ws := wsRX12_arc) B.pre
  have hown : s.vm.findClass RX12 = some m.cls := findClass_of_methodNamed B.named
  have hlocks := B.notSynchronized
  subst hsz
  have hD := hD0.self (sz := s.heap.size)
  generalize hAe : va_A (WR a k h0 vi vj vF vG) s.heap.size = A at hD ⊢
  have hA : ∀ q : Nat, s.heap.size ≤ q → A q := fun q h => by rw [← hAe]; exact Or.inr h
  have hS : va_S A s.heap s.heap [] := va_S.rf
  have hl := lv_entry ([.ref h0, .int aI, .int bI, .int rI, .int pI]) (n := 6) (Nat.le_of_ble_eq_true rfl)
  rw [lg_entry_eq]
  generalize (lg_sl ([.ref h0, .int aI, .int bI, .int rI, .int pI]) ++ List.replicate (6 - (lg_sl ([.ref h0, .int aI, .int bI, .int rI, .int pI])).length) Slot.unset).toArray = ls at hl ⊢
  have hl : lv_has ls 6 [(0, .ref h0), (1, .int aI), (2, .int bI), (3, .int rI), (4, .int pI)] := hl
  refine lv_iload_n hx hb dX12_arc_0 rfl (lv_at hl 1 rfl) ?_
  have hFc := noneFree hS hA
  refine va_calli (va_runS (As := [.int aI]) (rest := []) ⟨hx, hb, hml, hown, hts⟩ (r_X12_isPlace l dC dI aI s.heap.size) (va_cwS 1 hts gwsRX12_arc_0 rfl rfl rfl (by decide +kernel) ⟨by decide +kernel, by decide +kernel⟩) ⟨fun a U g mk q => by obtain ⟨q0, q1, qP, qK, qD⟩ := q; exact ⟨q0, q1, qP, va_K.moved (u := U) (U := U.calling g mk a) (Vm.Alike.refl U.vm) qK, qD⟩, fun U hU9 hW => ⟨rfl, by rw [hU9], by rw [hU9]; exact nilP, va_K.moved hW.alike (hK.sub (tys' := []) [] rfl), nilD⟩⟩ rfl rfl hl.1 rfl (lv_room (Nat.le_of_ble_eq_true rfl)) dX12_arc_1 (by decide +kernel)) hS (fun q _ h => hFc q h) hFc (fun r1 u t9_ H1 locs ht hvm hw9 hB9 hz1 hk1 hS => ?_)
  have hP := keepAll hP hk1
  clear hB9
  generalize H1 = H at hP hS ⊢
  have hP : va_P (dC, dI) vwCl (WR a k h0 vi vj vF vG) H := hP
  have hD := fz_sd hP (hD) rfl
  rcases hw9 with ⟨rfl, f1_0⟩ | ⟨rfl, f1_0⟩
  · refine lv_if_eq (tgt := 47) hx hb dX12_arc_4 (by decide) (fun c9 => absurd c9 (by decide)) (fun _ => ?_)
    refine lv_iload_n hx hb dX12_arc_7 rfl (lv_at hl 2 rfl) ?_
    have hFc := noneFree hS hA
    refine va_calli (va_runS (As := [.int bI]) (rest := []) ⟨hx, hb, hml, hown, hts⟩ (r_X12_isPlace l dC dI bI H.size) (va_cwS 1 hts gwsRX12_arc_0 rfl rfl rfl (by decide +kernel) ⟨by decide +kernel, by decide +kernel⟩) ⟨fun a U g mk q => by obtain ⟨q0, q1, qP, qK, qD⟩ := q; exact ⟨q0, q1, qP, va_K.moved (u := U) (U := U.calling g mk a) (Vm.Alike.refl U.vm) qK, qD⟩, fun U hU9 hW => ⟨rfl, by rw [hU9], by rw [hU9]; exact nilP, va_K.moved hW.alike (hK.sub (tys' := []) [] rfl), nilD⟩⟩ rfl rfl hl.1 rfl (lv_room (Nat.le_of_ble_eq_true rfl)) dX12_arc_8 (by decide +kernel)) hS (fun q _ h => hFc q h) hFc (fun r8 u t9_ H1 locs ht hvm hw9 hB9 hz1 hk1 hS => ?_)
    have hP := keepAll hP hk1
    clear hB9
    generalize H1 = H at hP hS ⊢
    have hP : va_P (dC, dI) vwCl (WR a k h0 vi vj vF vG) H := hP
    have hD := fz_sd hP (hD) rfl
    rcases hw9 with ⟨rfl, f8_0⟩ | ⟨rfl, f8_0⟩
    · refine lv_if_eq (tgt := 47) hx hb dX12_arc_11 (by decide) (fun c9 => absurd c9 (by decide)) (fun _ => ?_)
      refine lv_iload_n hx hb dX12_arc_14 rfl (lv_at hl 1 rfl) ?_
      refine lv_iload_n hx hb dX12_arc_15 rfl (lv_at hl 2 rfl) ?_
      refine lv_icmp_eq (tgt := 47) hx hb dX12_arc_16 (by decide) (fun c_16 => ?_) (fun c_16 => ?_)
      · have t_16 : (aI).toInt = (bI).toInt := toI_eq c_16 rfl rfl
        refine lv_iconst (v := 0) hx hb dX12_arc_47 (by decide) ?_
        refine lv_istore hx hb dX12_arc_48 hl (by decide) rfl (fun ls (hl : lv_has ls _ ([(5, .int 0), (0, .ref h0), (1, .int aI), (2, .int bI), (3, .int rI), (4, .int pI)])) => ?_)
        refine lv_aload_n hx hb dX12_arc_50 rfl (lv_at hl 1 rfl) ?_
        refine lv_iload hx hb dX12_arc_51 (lv_at hl 0 rfl) ?_
        refine lv_if_ne (tgt := 60) hx hb dX12_arc_53 (by decide) (fun c9 => absurd c9 (by decide)) (fun _ => ?_)
        refine lv_iconst (v := 1) hx hb dX12_arc_56 (by decide) ?_
        refine lv_goto (tgt := 74) hx hb dX12_arc_57 (by decide) ?_
        refine va_put (D := (dC, dI)) (ci := 12) (v := .int 1) (ty := .int) (C := RX12) (T := TX12) (N := 163) (fs := fM (vS a vi vj)) hx hb hts iwsRX12_arc_in12 tyX12 tyX12_ok nmX12 hown hK hP hD hS 0 rfl rfl 0 (by decide) (hts _ hm_r_X12_arc_0) (fun _ h9 => h9) rfl (by decide +kernel) rfl rfl (Nat.le_of_ble_eq_true rfl) dX12_arc_74 (fun H locs hP hD hS => ?_)
        have hP : va_P (dC, dI) vwCl (WR a k h0 (fT vi 0 1) vj vF vG) H := fz_w (WR_i 0 _ rfl) hP
        have hD : va_D A (WR a k h0 (fT vi 0 1) vj vF vG) := fz_wD (WR_i 0 _ rfl) hD
        refine lv_aload_n hx hb dX12_arc_77 rfl (lv_at hl 1 rfl) ?_
        refine va_get (D := (dC, dI)) (ci := 12) (v := .int 1) (C := RX12) (T := TX12) (N := 163) (fs := fM (vS a (fT vi 0 1) vj)) hx hb hts iwsRX12_arc_in12 hown hK hP 0 rfl rfl 0 (by decide) (hts _ hm_r_X12_arc_0) (fun _ h9 => h9) rfl dX12_arc_78 ?_
        refine lv_if_le (tgt := 86) hx hb dX12_arc_81 (by decide) (fun c9 => absurd c9 (by decide)) (fun _ => ?_)
        refine lv_iconst (v := 0) hx hb dX12_arc_84 (by decide) ?_
        refine W.widen (k := 0) (n := 0) (by decide +kernel) (by decide +kernel) ?_
        have e9 : fT (fT vi 0 1) 150 (nI ar) = fT vi 0 1 := Eq.trans (congrArg (fT _ 150) (show nI ar = vi 150 from (by first | with_reducible rfl | with_reducible assumption | (symm; with_reducible assumption) | rfl | assumption | (symm; assumption) | (subst_vars; rfl)))) (id_1 rfl)
        have hP := wr_Pi e9 hP
        have hD := wr_Di e9 hD
        clear e9
        have e9 : fT (fT (fT (fT vF 95 (vF 95)) 96 (vF 96)) 97 (vF 97)) 98 (vF 98) = vF := (fT_id _ _ ((fT_ne _ _ (Nat.ne_of_beq_eq_false rfl)).trans ((fT_ne _ _ (Nat.ne_of_beq_eq_false rfl)).trans (fT_ne _ _ (Nat.ne_of_beq_eq_false rfl))))).trans ((fT_id _ _ ((fT_ne _ _ (Nat.ne_of_beq_eq_false rfl)).trans (fT_ne _ _ (Nat.ne_of_beq_eq_false rfl)))).trans ((fT_id _ _ (fT_ne _ _ (Nat.ne_of_beq_eq_false rfl))).trans (fT_id _ _ (rfl))))
        have hP := wr_PF e9 hP
        have hD := wr_DF e9 hD
        clear e9
        exact W.iret (v := 0) hx hb hr (fun t9_ ht hW => ⟨⟨0, (1, ar, (vF 95), (vF 96), (vF 97), (vF 98)), rfl, by (try dsimp only); exact Or.inl (⟨by omega, hAr, rfl, by omega, rfl⟩), by rw [ht]; exact hP, hD⟩, hS.F ht⟩) hS.2.2 dX12_arc_85
      · have t_16 : ¬ (aI).toInt = (bI).toInt := toI_neq c_16 rfl rfl
        refine lv_iload_n hx hb dX12_arc_19 rfl (lv_at hl 3 rfl) ?_
        refine lv_if_lt (tgt := 47) hx hb dX12_arc_20 (by decide) (fun c_20 => ?_) (fun c_20 => ?_)
        · have t_20 : (rI).toInt < 0 := toI_lt c_20 rfl (by decide)
          refine lv_iconst (v := 0) hx hb dX12_arc_47 (by decide) ?_
          refine lv_istore hx hb dX12_arc_48 hl (by decide) rfl (fun ls (hl : lv_has ls _ ([(5, .int 0), (0, .ref h0), (1, .int aI), (2, .int bI), (3, .int rI), (4, .int pI)])) => ?_)
          refine lv_aload_n hx hb dX12_arc_50 rfl (lv_at hl 1 rfl) ?_
          refine lv_iload hx hb dX12_arc_51 (lv_at hl 0 rfl) ?_
          refine lv_if_ne (tgt := 60) hx hb dX12_arc_53 (by decide) (fun c9 => absurd c9 (by decide)) (fun _ => ?_)
          refine lv_iconst (v := 1) hx hb dX12_arc_56 (by decide) ?_
          refine lv_goto (tgt := 74) hx hb dX12_arc_57 (by decide) ?_
          refine va_put (D := (dC, dI)) (ci := 12) (v := .int 1) (ty := .int) (C := RX12) (T := TX12) (N := 163) (fs := fM (vS a vi vj)) hx hb hts iwsRX12_arc_in12 tyX12 tyX12_ok nmX12 hown hK hP hD hS 0 rfl rfl 0 (by decide) (hts _ hm_r_X12_arc_0) (fun _ h9 => h9) rfl (by decide +kernel) rfl rfl (Nat.le_of_ble_eq_true rfl) dX12_arc_74 (fun H locs hP hD hS => ?_)
          have hP : va_P (dC, dI) vwCl (WR a k h0 (fT vi 0 1) vj vF vG) H := fz_w (WR_i 0 _ rfl) hP
          have hD : va_D A (WR a k h0 (fT vi 0 1) vj vF vG) := fz_wD (WR_i 0 _ rfl) hD
          refine lv_aload_n hx hb dX12_arc_77 rfl (lv_at hl 1 rfl) ?_
          refine va_get (D := (dC, dI)) (ci := 12) (v := .int 1) (C := RX12) (T := TX12) (N := 163) (fs := fM (vS a (fT vi 0 1) vj)) hx hb hts iwsRX12_arc_in12 hown hK hP 0 rfl rfl 0 (by decide) (hts _ hm_r_X12_arc_0) (fun _ h9 => h9) rfl dX12_arc_78 ?_
          refine lv_if_le (tgt := 86) hx hb dX12_arc_81 (by decide) (fun c9 => absurd c9 (by decide)) (fun _ => ?_)
          refine lv_iconst (v := 0) hx hb dX12_arc_84 (by decide) ?_
          refine W.widen (k := 0) (n := 0) (by decide +kernel) (by decide +kernel) ?_
          have e9 : fT (fT vi 0 1) 150 (nI ar) = fT vi 0 1 := Eq.trans (congrArg (fT _ 150) (show nI ar = vi 150 from (by first | with_reducible rfl | with_reducible assumption | (symm; with_reducible assumption) | rfl | assumption | (symm; assumption) | (subst_vars; rfl)))) (id_1 rfl)
          have hP := wr_Pi e9 hP
          have hD := wr_Di e9 hD
          clear e9
          have e9 : fT (fT (fT (fT vF 95 (vF 95)) 96 (vF 96)) 97 (vF 97)) 98 (vF 98) = vF := (fT_id _ _ ((fT_ne _ _ (Nat.ne_of_beq_eq_false rfl)).trans ((fT_ne _ _ (Nat.ne_of_beq_eq_false rfl)).trans (fT_ne _ _ (Nat.ne_of_beq_eq_false rfl))))).trans ((fT_id _ _ ((fT_ne _ _ (Nat.ne_of_beq_eq_false rfl)).trans (fT_ne _ _ (Nat.ne_of_beq_eq_false rfl)))).trans ((fT_id _ _ (fT_ne _ _ (Nat.ne_of_beq_eq_false rfl))).trans (fT_id _ _ (rfl))))
          have hP := wr_PF e9 hP
          have hD := wr_DF e9 hD
          clear e9
          exact W.iret (v := 0) hx hb hr (fun t9_ ht hW => ⟨⟨0, (1, ar, (vF 95), (vF 96), (vF 97), (vF 98)), rfl, by (try dsimp only); exact Or.inl (⟨by omega, hAr, rfl, by omega, rfl⟩), by rw [ht]; exact hP, hD⟩, hS.F ht⟩) hS.2.2 dX12_arc_85
        · have t_20 : ¬ (rI).toInt < 0 := toI_nlt c_20 rfl (by decide)
          refine lv_iload_n hx hb dX12_arc_23 rfl (lv_at hl 3 rfl) ?_
          refine lv_sipush (v := 1000) hx hb dX12_arc_24 (by decide) ?_
          refine lv_icmp_gt (tgt := 47) hx hb dX12_arc_27 (by decide) (fun c_27 => ?_) (fun c_27 => ?_)
          · have t_27 : (rI).toInt > 1000 := toI_gt c_27 rfl (by decide)
            refine lv_iconst (v := 0) hx hb dX12_arc_47 (by decide) ?_
            refine lv_istore hx hb dX12_arc_48 hl (by decide) rfl (fun ls (hl : lv_has ls _ ([(5, .int 0), (0, .ref h0), (1, .int aI), (2, .int bI), (3, .int rI), (4, .int pI)])) => ?_)
            refine lv_aload_n hx hb dX12_arc_50 rfl (lv_at hl 1 rfl) ?_
            refine lv_iload hx hb dX12_arc_51 (lv_at hl 0 rfl) ?_
            refine lv_if_ne (tgt := 60) hx hb dX12_arc_53 (by decide) (fun c9 => absurd c9 (by decide)) (fun _ => ?_)
            refine lv_iconst (v := 1) hx hb dX12_arc_56 (by decide) ?_
            refine lv_goto (tgt := 74) hx hb dX12_arc_57 (by decide) ?_
            refine va_put (D := (dC, dI)) (ci := 12) (v := .int 1) (ty := .int) (C := RX12) (T := TX12) (N := 163) (fs := fM (vS a vi vj)) hx hb hts iwsRX12_arc_in12 tyX12 tyX12_ok nmX12 hown hK hP hD hS 0 rfl rfl 0 (by decide) (hts _ hm_r_X12_arc_0) (fun _ h9 => h9) rfl (by decide +kernel) rfl rfl (Nat.le_of_ble_eq_true rfl) dX12_arc_74 (fun H locs hP hD hS => ?_)
            have hP : va_P (dC, dI) vwCl (WR a k h0 (fT vi 0 1) vj vF vG) H := fz_w (WR_i 0 _ rfl) hP
            have hD : va_D A (WR a k h0 (fT vi 0 1) vj vF vG) := fz_wD (WR_i 0 _ rfl) hD
            refine lv_aload_n hx hb dX12_arc_77 rfl (lv_at hl 1 rfl) ?_
            refine va_get (D := (dC, dI)) (ci := 12) (v := .int 1) (C := RX12) (T := TX12) (N := 163) (fs := fM (vS a (fT vi 0 1) vj)) hx hb hts iwsRX12_arc_in12 hown hK hP 0 rfl rfl 0 (by decide) (hts _ hm_r_X12_arc_0) (fun _ h9 => h9) rfl dX12_arc_78 ?_
            refine lv_if_le (tgt := 86) hx hb dX12_arc_81 (by decide) (fun c9 => absurd c9 (by decide)) (fun _ => ?_)
            refine lv_iconst (v := 0) hx hb dX12_arc_84 (by decide) ?_
            refine W.widen (k := 0) (n := 0) (by decide +kernel) (by decide +kernel) ?_
            have e9 : fT (fT vi 0 1) 150 (nI ar) = fT vi 0 1 := Eq.trans (congrArg (fT _ 150) (show nI ar = vi 150 from (by first | with_reducible rfl | with_reducible assumption | (symm; with_reducible assumption) | rfl | assumption | (symm; assumption) | (subst_vars; rfl)))) (id_1 rfl)
            have hP := wr_Pi e9 hP
            have hD := wr_Di e9 hD
            clear e9
            have e9 : fT (fT (fT (fT vF 95 (vF 95)) 96 (vF 96)) 97 (vF 97)) 98 (vF 98) = vF := (fT_id _ _ ((fT_ne _ _ (Nat.ne_of_beq_eq_false rfl)).trans ((fT_ne _ _ (Nat.ne_of_beq_eq_false rfl)).trans (fT_ne _ _ (Nat.ne_of_beq_eq_false rfl))))).trans ((fT_id _ _ ((fT_ne _ _ (Nat.ne_of_beq_eq_false rfl)).trans (fT_ne _ _ (Nat.ne_of_beq_eq_false rfl)))).trans ((fT_id _ _ (fT_ne _ _ (Nat.ne_of_beq_eq_false rfl))).trans (fT_id _ _ (rfl))))
            have hP := wr_PF e9 hP
            have hD := wr_DF e9 hD
            clear e9
            exact W.iret (v := 0) hx hb hr (fun t9_ ht hW => ⟨⟨0, (1, ar, (vF 95), (vF 96), (vF 97), (vF 98)), rfl, by (try dsimp only); exact Or.inl (⟨by omega, hAr, rfl, by omega, rfl⟩), by rw [ht]; exact hP, hD⟩, hS.F ht⟩) hS.2.2 dX12_arc_85
          · have t_27 : ¬ (rI).toInt > 1000 := toI_ngt c_27 rfl (by decide)
            refine lv_iload hx hb dX12_arc_30 (lv_at hl 4 rfl) ?_
            refine lv_if_lt (tgt := 47) hx hb dX12_arc_32 (by decide) (fun c_32 => ?_) (fun c_32 => ?_)
            · have t_32 : (pI).toInt < 0 := toI_lt c_32 rfl (by decide)
              refine lv_iconst (v := 0) hx hb dX12_arc_47 (by decide) ?_
              refine lv_istore hx hb dX12_arc_48 hl (by decide) rfl (fun ls (hl : lv_has ls _ ([(5, .int 0), (0, .ref h0), (1, .int aI), (2, .int bI), (3, .int rI), (4, .int pI)])) => ?_)
              refine lv_aload_n hx hb dX12_arc_50 rfl (lv_at hl 1 rfl) ?_
              refine lv_iload hx hb dX12_arc_51 (lv_at hl 0 rfl) ?_
              refine lv_if_ne (tgt := 60) hx hb dX12_arc_53 (by decide) (fun c9 => absurd c9 (by decide)) (fun _ => ?_)
              refine lv_iconst (v := 1) hx hb dX12_arc_56 (by decide) ?_
              refine lv_goto (tgt := 74) hx hb dX12_arc_57 (by decide) ?_
              refine va_put (D := (dC, dI)) (ci := 12) (v := .int 1) (ty := .int) (C := RX12) (T := TX12) (N := 163) (fs := fM (vS a vi vj)) hx hb hts iwsRX12_arc_in12 tyX12 tyX12_ok nmX12 hown hK hP hD hS 0 rfl rfl 0 (by decide) (hts _ hm_r_X12_arc_0) (fun _ h9 => h9) rfl (by decide +kernel) rfl rfl (Nat.le_of_ble_eq_true rfl) dX12_arc_74 (fun H locs hP hD hS => ?_)
              have hP : va_P (dC, dI) vwCl (WR a k h0 (fT vi 0 1) vj vF vG) H := fz_w (WR_i 0 _ rfl) hP
              have hD : va_D A (WR a k h0 (fT vi 0 1) vj vF vG) := fz_wD (WR_i 0 _ rfl) hD
              refine lv_aload_n hx hb dX12_arc_77 rfl (lv_at hl 1 rfl) ?_
              refine va_get (D := (dC, dI)) (ci := 12) (v := .int 1) (C := RX12) (T := TX12) (N := 163) (fs := fM (vS a (fT vi 0 1) vj)) hx hb hts iwsRX12_arc_in12 hown hK hP 0 rfl rfl 0 (by decide) (hts _ hm_r_X12_arc_0) (fun _ h9 => h9) rfl dX12_arc_78 ?_
              refine lv_if_le (tgt := 86) hx hb dX12_arc_81 (by decide) (fun c9 => absurd c9 (by decide)) (fun _ => ?_)
              refine lv_iconst (v := 0) hx hb dX12_arc_84 (by decide) ?_
              refine W.widen (k := 0) (n := 0) (by decide +kernel) (by decide +kernel) ?_
              have e9 : fT (fT vi 0 1) 150 (nI ar) = fT vi 0 1 := Eq.trans (congrArg (fT _ 150) (show nI ar = vi 150 from (by first | with_reducible rfl | with_reducible assumption | (symm; with_reducible assumption) | rfl | assumption | (symm; assumption) | (subst_vars; rfl)))) (id_1 rfl)
              have hP := wr_Pi e9 hP
              have hD := wr_Di e9 hD
              clear e9
              have e9 : fT (fT (fT (fT vF 95 (vF 95)) 96 (vF 96)) 97 (vF 97)) 98 (vF 98) = vF := (fT_id _ _ ((fT_ne _ _ (Nat.ne_of_beq_eq_false rfl)).trans ((fT_ne _ _ (Nat.ne_of_beq_eq_false rfl)).trans (fT_ne _ _ (Nat.ne_of_beq_eq_false rfl))))).trans ((fT_id _ _ ((fT_ne _ _ (Nat.ne_of_beq_eq_false rfl)).trans (fT_ne _ _ (Nat.ne_of_beq_eq_false rfl)))).trans ((fT_id _ _ (fT_ne _ _ (Nat.ne_of_beq_eq_false rfl))).trans (fT_id _ _ (rfl))))
              have hP := wr_PF e9 hP
              have hD := wr_DF e9 hD
              clear e9
              exact W.iret (v := 0) hx hb hr (fun t9_ ht hW => ⟨⟨0, (1, ar, (vF 95), (vF 96), (vF 97), (vF 98)), rfl, by (try dsimp only); exact Or.inl (⟨by omega, hAr, rfl, by omega, rfl⟩), by rw [ht]; exact hP, hD⟩, hS.F ht⟩) hS.2.2 dX12_arc_85
            · have t_32 : ¬ (pI).toInt < 0 := toI_nlt c_32 rfl (by decide)
              refine lv_iload hx hb dX12_arc_35 (lv_at hl 4 rfl) ?_
              refine lv_sipush (v := 1000) hx hb dX12_arc_37 (by decide) ?_
              refine lv_icmp_gt (tgt := 47) hx hb dX12_arc_40 (by decide) (fun c_40 => ?_) (fun c_40 => ?_)
              · have t_40 : (pI).toInt > 1000 := toI_gt c_40 rfl (by decide)
                refine lv_iconst (v := 0) hx hb dX12_arc_47 (by decide) ?_
                refine lv_istore hx hb dX12_arc_48 hl (by decide) rfl (fun ls (hl : lv_has ls _ ([(5, .int 0), (0, .ref h0), (1, .int aI), (2, .int bI), (3, .int rI), (4, .int pI)])) => ?_)
                refine lv_aload_n hx hb dX12_arc_50 rfl (lv_at hl 1 rfl) ?_
                refine lv_iload hx hb dX12_arc_51 (lv_at hl 0 rfl) ?_
                refine lv_if_ne (tgt := 60) hx hb dX12_arc_53 (by decide) (fun c9 => absurd c9 (by decide)) (fun _ => ?_)
                refine lv_iconst (v := 1) hx hb dX12_arc_56 (by decide) ?_
                refine lv_goto (tgt := 74) hx hb dX12_arc_57 (by decide) ?_
                refine va_put (D := (dC, dI)) (ci := 12) (v := .int 1) (ty := .int) (C := RX12) (T := TX12) (N := 163) (fs := fM (vS a vi vj)) hx hb hts iwsRX12_arc_in12 tyX12 tyX12_ok nmX12 hown hK hP hD hS 0 rfl rfl 0 (by decide) (hts _ hm_r_X12_arc_0) (fun _ h9 => h9) rfl (by decide +kernel) rfl rfl (Nat.le_of_ble_eq_true rfl) dX12_arc_74 (fun H locs hP hD hS => ?_)
                have hP : va_P (dC, dI) vwCl (WR a k h0 (fT vi 0 1) vj vF vG) H := fz_w (WR_i 0 _ rfl) hP
                have hD : va_D A (WR a k h0 (fT vi 0 1) vj vF vG) := fz_wD (WR_i 0 _ rfl) hD
                refine lv_aload_n hx hb dX12_arc_77 rfl (lv_at hl 1 rfl) ?_
                refine va_get (D := (dC, dI)) (ci := 12) (v := .int 1) (C := RX12) (T := TX12) (N := 163) (fs := fM (vS a (fT vi 0 1) vj)) hx hb hts iwsRX12_arc_in12 hown hK hP 0 rfl rfl 0 (by decide) (hts _ hm_r_X12_arc_0) (fun _ h9 => h9) rfl dX12_arc_78 ?_
                refine lv_if_le (tgt := 86) hx hb dX12_arc_81 (by decide) (fun c9 => absurd c9 (by decide)) (fun _ => ?_)
                refine lv_iconst (v := 0) hx hb dX12_arc_84 (by decide) ?_
                refine W.widen (k := 0) (n := 0) (by decide +kernel) (by decide +kernel) ?_
                have e9 : fT (fT vi 0 1) 150 (nI ar) = fT vi 0 1 := Eq.trans (congrArg (fT _ 150) (show nI ar = vi 150 from (by first | with_reducible rfl | with_reducible assumption | (symm; with_reducible assumption) | rfl | assumption | (symm; assumption) | (subst_vars; rfl)))) (id_1 rfl)
                have hP := wr_Pi e9 hP
                have hD := wr_Di e9 hD
                clear e9
                have e9 : fT (fT (fT (fT vF 95 (vF 95)) 96 (vF 96)) 97 (vF 97)) 98 (vF 98) = vF := (fT_id _ _ ((fT_ne _ _ (Nat.ne_of_beq_eq_false rfl)).trans ((fT_ne _ _ (Nat.ne_of_beq_eq_false rfl)).trans (fT_ne _ _ (Nat.ne_of_beq_eq_false rfl))))).trans ((fT_id _ _ ((fT_ne _ _ (Nat.ne_of_beq_eq_false rfl)).trans (fT_ne _ _ (Nat.ne_of_beq_eq_false rfl)))).trans ((fT_id _ _ (fT_ne _ _ (Nat.ne_of_beq_eq_false rfl))).trans (fT_id _ _ (rfl))))
                have hP := wr_PF e9 hP
                have hD := wr_DF e9 hD
                clear e9
                exact W.iret (v := 0) hx hb hr (fun t9_ ht hW => ⟨⟨0, (1, ar, (vF 95), (vF 96), (vF 97), (vF 98)), rfl, by (try dsimp only); exact Or.inl (⟨by omega, hAr, rfl, by omega, rfl⟩), by rw [ht]; exact hP, hD⟩, hS.F ht⟩) hS.2.2 dX12_arc_85
              · have t_40 : ¬ (pI).toInt > 1000 := toI_ngt c_40 rfl (by decide)
                refine lv_iconst (v := 1) hx hb dX12_arc_43 (by decide) ?_
                refine lv_goto (tgt := 48) hx hb dX12_arc_44 (by decide) ?_
                refine lv_istore hx hb dX12_arc_48 hl (by decide) rfl (fun ls (hl : lv_has ls _ ([(5, .int 1), (0, .ref h0), (1, .int aI), (2, .int bI), (3, .int rI), (4, .int pI)])) => ?_)
                refine lv_aload_n hx hb dX12_arc_50 rfl (lv_at hl 1 rfl) ?_
                refine lv_iload hx hb dX12_arc_51 (lv_at hl 0 rfl) ?_
                refine lv_if_ne (tgt := 60) hx hb dX12_arc_53 (by decide) (fun _ => ?_) (fun c9 => absurd c9 (by decide))
                refine lv_aload_n hx hb dX12_arc_60 rfl (lv_at hl 1 rfl) ?_
                refine va_get (D := (dC, dI)) (ci := 12) (v := .int (vi 150)) (C := RX12) (T := TX12) (N := 163) (fs := fM (vS a vi vj)) hx hb hts iwsRX12_arc_in12 hown hK hP 0 rfl rfl 150 (by decide) (hts _ hm_r_X12_arc_1) (fun _ h9 => h9) rfl dX12_arc_61 ?_
                refine lv_topi (fun y1 hy1 => ?_)
                obtain rfl : (nI ar) = y1 := (hy1.trans (har)).symm
                refine lv_bipush (v := 40) hx hb dX12_arc_64 (by decide) ?_
                refine lv_icmp_ne (tgt := 73) hx hb dX12_arc_66 (by decide) (fun c_66 => ?_) (fun c_66 => ?_)
                · have t_66 : ((ar : Nat) : Int) ≠ 40 := toI_ne c_66 (nI_toInt (by omega)) (by decide)
                  refine lv_iconst (v := 0) hx hb dX12_arc_73 (by decide) ?_
                  refine va_put (D := (dC, dI)) (ci := 12) (v := .int 0) (ty := .int) (C := RX12) (T := TX12) (N := 163) (fs := fM (vS a vi vj)) hx hb hts iwsRX12_arc_in12 tyX12 tyX12_ok nmX12 hown hK hP hD hS 0 rfl rfl 0 (by decide) (hts _ hm_r_X12_arc_0) (fun _ h9 => h9) rfl (by decide +kernel) rfl rfl (Nat.le_of_ble_eq_true rfl) dX12_arc_74 (fun H locs hP hD hS => ?_)
                  have hP : va_P (dC, dI) vwCl (WR a k h0 (fT vi 0 0) vj vF vG) H := fz_w (WR_i 0 _ rfl) hP
                  have hD : va_D A (WR a k h0 (fT vi 0 0) vj vF vG) := fz_wD (WR_i 0 _ rfl) hD
                  refine lv_aload_n hx hb dX12_arc_77 rfl (lv_at hl 1 rfl) ?_
                  refine va_get (D := (dC, dI)) (ci := 12) (v := .int 0) (C := RX12) (T := TX12) (N := 163) (fs := fM (vS a (fT vi 0 0) vj)) hx hb hts iwsRX12_arc_in12 hown hK hP 0 rfl rfl 0 (by decide) (hts _ hm_r_X12_arc_0) (fun _ h9 => h9) rfl dX12_arc_78 ?_
                  refine lv_if_le (tgt := 86) hx hb dX12_arc_81 (by decide) (fun _ => ?_) (fun c9 => absurd (by decide) c9)
                  obtain ⟨x5, hx5, ex5⟩ := of_toInt (x := aI) (k := 12) (by omega) (by omega)
                  obtain ⟨y5, hy5, ey5⟩ := of_toInt (x := bI) (k := 12) (by omega) (by omega)
                  refine lv_aload_n hx hb dX12_arc_86 rfl (lv_at hl 1 rfl) ?_
                  refine va_get (D := (dC, dI)) (ci := 12) (v := .ref (a 95)) (C := RX12) (T := TX12) (N := 163) (fs := fM (vS a (fT vi 0 0) vj)) hx hb hts iwsRX12_arc_in12 hown hK hP 0 rfl rfl 151 (by decide) (hts (.fieldLink RX12 312 "OptimaWorksModel" "arcFrom" "[I") (by decide +kernel)) (fun _ h9 => h9) rfl dX12_arc_87 ?_
                  refine lv_aload_n hx hb dX12_arc_90 rfl (lv_at hl 1 rfl) ?_
                  refine va_get (D := (dC, dI)) (ci := 12) (v := .int (vi 150)) (C := RX12) (T := TX12) (N := 163) (fs := fM (vS a (fT vi 0 0) vj)) hx hb hts iwsRX12_arc_in12 hown hK hP 0 rfl rfl 150 (by decide) (hts _ hm_r_X12_arc_1) (fun _ h9 => h9) rfl dX12_arc_91 ?_
                  refine lv_topi (fun y2 hy2 => ?_)
                  obtain rfl : (nI ar) = y2 := (hy2.trans (har)).symm
                  refine lv_iload_n hx hb dX12_arc_94 rfl (lv_at hl 2 rfl) ?_
                  refine va_iast (cA := k 95) (n := 40) (f := (vF 95)) hx hb hK hP hD hS 96 95 (WR_get 95 (by decide)) (TR_get 95 (by decide)) (vp_in_nI (show ar < 40 by omega) (by omega)) dX12_arc_95 (fun H locs hP hD hS => ?_)
                  have hP : va_P (dC, dI) vwCl (WR a k h0 (fT vi 0 0) vj (fT vF 95 (upd (vF 95) ((nI ar)).toNatClampNeg aI)) vG) H := fz_w (WR_F 95 (by decide) _ rfl) hP
                  have hD : va_D A (WR a k h0 (fT vi 0 0) vj (fT vF 95 (upd (vF 95) ((nI ar)).toNatClampNeg aI)) vG) := fz_wD (WR_F 95 (by decide) _ rfl) hD
                  refine lv_aload_n hx hb dX12_arc_96 rfl (lv_at hl 1 rfl) ?_
                  refine va_get (D := (dC, dI)) (ci := 12) (v := .ref (a 96)) (C := RX12) (T := TX12) (N := 163) (fs := fM (vS a (fT vi 0 0) vj)) hx hb hts iwsRX12_arc_in12 hown hK hP 0 rfl rfl 152 (by decide) (hts (.fieldLink RX12 315 "OptimaWorksModel" "arcTo" "[I") (by decide +kernel)) (fun _ h9 => h9) rfl dX12_arc_97 ?_
                  refine lv_aload_n hx hb dX12_arc_100 rfl (lv_at hl 1 rfl) ?_
                  refine va_get (D := (dC, dI)) (ci := 12) (v := .int (vi 150)) (C := RX12) (T := TX12) (N := 163) (fs := fM (vS a (fT vi 0 0) vj)) hx hb hts iwsRX12_arc_in12 hown hK hP 0 rfl rfl 150 (by decide) (hts _ hm_r_X12_arc_1) (fun _ h9 => h9) rfl dX12_arc_101 ?_
                  refine lv_topi (fun y3 hy3 => ?_)
                  obtain rfl : (nI ar) = y3 := (hy3.trans (har)).symm
                  refine lv_iload_n hx hb dX12_arc_104 rfl (lv_at hl 3 rfl) ?_
                  refine va_iast (cA := k 96) (n := 40) (f := (vF 96)) hx hb hK hP hD hS 97 96 (WR_get 96 (by decide)) (TR_get 96 (by decide)) (vp_in_nI (show ar < 40 by omega) (by omega)) dX12_arc_105 (fun H locs hP hD hS => ?_)
                  have hP : va_P (dC, dI) vwCl (WR a k h0 (fT vi 0 0) vj (fT (fT vF 95 (upd (vF 95) ((nI ar)).toNatClampNeg aI)) 96 (upd (vF 96) ((nI ar)).toNatClampNeg bI)) vG) H := fz_w (WR_F 96 (by decide) _ rfl) hP
                  have hD : va_D A (WR a k h0 (fT vi 0 0) vj (fT (fT vF 95 (upd (vF 95) ((nI ar)).toNatClampNeg aI)) 96 (upd (vF 96) ((nI ar)).toNatClampNeg bI)) vG) := fz_wD (WR_F 96 (by decide) _ rfl) hD
                  refine lv_aload_n hx hb dX12_arc_106 rfl (lv_at hl 1 rfl) ?_
                  refine va_get (D := (dC, dI)) (ci := 12) (v := .ref (a 97)) (C := RX12) (T := TX12) (N := 163) (fs := fM (vS a (fT vi 0 0) vj)) hx hb hts iwsRX12_arc_in12 hown hK hP 0 rfl rfl 153 (by decide) (hts (.fieldLink RX12 318 "OptimaWorksModel" "arcRoom" "[I") (by decide +kernel)) (fun _ h9 => h9) rfl dX12_arc_107 ?_
                  refine lv_aload_n hx hb dX12_arc_110 rfl (lv_at hl 1 rfl) ?_
                  refine va_get (D := (dC, dI)) (ci := 12) (v := .int (vi 150)) (C := RX12) (T := TX12) (N := 163) (fs := fM (vS a (fT vi 0 0) vj)) hx hb hts iwsRX12_arc_in12 hown hK hP 0 rfl rfl 150 (by decide) (hts _ hm_r_X12_arc_1) (fun _ h9 => h9) rfl dX12_arc_111 ?_
                  refine lv_topi (fun y4 hy4 => ?_)
                  obtain rfl : (nI ar) = y4 := (hy4.trans (har)).symm
                  refine lv_iload_n hx hb dX12_arc_114 rfl (lv_at hl 4 rfl) ?_
                  refine va_iast (cA := k 97) (n := 40) (f := (vF 97)) hx hb hK hP hD hS 98 97 (WR_get 97 (by decide)) (TR_get 97 (by decide)) (vp_in_nI (show ar < 40 by omega) (by omega)) dX12_arc_115 (fun H locs hP hD hS => ?_)
                  have hP : va_P (dC, dI) vwCl (WR a k h0 (fT vi 0 0) vj (fT (fT (fT vF 95 (upd (vF 95) ((nI ar)).toNatClampNeg aI)) 96 (upd (vF 96) ((nI ar)).toNatClampNeg bI)) 97 (upd (vF 97) ((nI ar)).toNatClampNeg rI)) vG) H := fz_w (WR_F 97 (by decide) _ rfl) hP
                  have hD : va_D A (WR a k h0 (fT vi 0 0) vj (fT (fT (fT vF 95 (upd (vF 95) ((nI ar)).toNatClampNeg aI)) 96 (upd (vF 96) ((nI ar)).toNatClampNeg bI)) 97 (upd (vF 97) ((nI ar)).toNatClampNeg rI)) vG) := fz_wD (WR_F 97 (by decide) _ rfl) hD
                  refine lv_aload_n hx hb dX12_arc_116 rfl (lv_at hl 1 rfl) ?_
                  refine va_get (D := (dC, dI)) (ci := 12) (v := .ref (a 98)) (C := RX12) (T := TX12) (N := 163) (fs := fM (vS a (fT vi 0 0) vj)) hx hb hts iwsRX12_arc_in12 hown hK hP 0 rfl rfl 154 (by decide) (hts (.fieldLink RX12 321 "OptimaWorksModel" "arcCost" "[I") (by decide +kernel)) (fun _ h9 => h9) rfl dX12_arc_117 ?_
                  refine lv_aload_n hx hb dX12_arc_120 rfl (lv_at hl 1 rfl) ?_
                  refine va_get (D := (dC, dI)) (ci := 12) (v := .int (vi 150)) (C := RX12) (T := TX12) (N := 163) (fs := fM (vS a (fT vi 0 0) vj)) hx hb hts iwsRX12_arc_in12 hown hK hP 0 rfl rfl 150 (by decide) (hts _ hm_r_X12_arc_1) (fun _ h9 => h9) rfl dX12_arc_121 ?_
                  refine lv_topi (fun y5 hy5 => ?_)
                  obtain rfl : (nI ar) = y5 := (hy5.trans (har)).symm
                  refine lv_iload hx hb dX12_arc_124 (lv_at hl 5 rfl) ?_
                  refine va_iast (cA := k 98) (n := 40) (f := (vF 98)) hx hb hK hP hD hS 99 98 (WR_get 98 (by decide)) (TR_get 98 (by decide)) (vp_in_nI (show ar < 40 by omega) (by omega)) dX12_arc_126 (fun H locs hP hD hS => ?_)
                  have hP : va_P (dC, dI) vwCl (WR a k h0 (fT vi 0 0) vj (fT (fT (fT (fT vF 95 (upd (vF 95) ((nI ar)).toNatClampNeg aI)) 96 (upd (vF 96) ((nI ar)).toNatClampNeg bI)) 97 (upd (vF 97) ((nI ar)).toNatClampNeg rI)) 98 (upd (vF 98) ((nI ar)).toNatClampNeg pI)) vG) H := fz_w (WR_F 98 (by decide) _ rfl) hP
                  have hD : va_D A (WR a k h0 (fT vi 0 0) vj (fT (fT (fT (fT vF 95 (upd (vF 95) ((nI ar)).toNatClampNeg aI)) 96 (upd (vF 96) ((nI ar)).toNatClampNeg bI)) 97 (upd (vF 97) ((nI ar)).toNatClampNeg rI)) 98 (upd (vF 98) ((nI ar)).toNatClampNeg pI)) vG) := fz_wD (WR_F 98 (by decide) _ rfl) hD
                  refine lv_aload_n hx hb dX12_arc_127 rfl (lv_at hl 1 rfl) ?_
                  refine lv_dup hx hb dX12_arc_128 rfl ?_
                  refine va_get (D := (dC, dI)) (ci := 12) (v := .int (vi 150)) (C := RX12) (T := TX12) (N := 163) (fs := fM (vS a (fT vi 0 0) vj)) hx hb hts iwsRX12_arc_in12 hown hK hP 0 rfl rfl 150 (by decide) (hts _ hm_r_X12_arc_1) (fun _ h9 => h9) rfl dX12_arc_129 ?_
                  refine lv_topi (fun y6 hy6 => ?_)
                  obtain rfl : (nI ar) = y6 := (hy6.trans (har)).symm
                  refine lv_iconst (v := 1) hx hb dX12_arc_132 (by decide) ?_
                  refine lv_iadd hx hb dX12_arc_133 ?_
                  refine lv_topi (fun y7 hy7 => ?_)
                  obtain rfl : (nI (ar + 1)) = y7 := (hy7.trans (nI_add ar 1)).symm
                  refine va_put (D := (dC, dI)) (ci := 12) (v := .int (nI (ar + 1))) (ty := .int) (C := RX12) (T := TX12) (N := 163) (fs := fM (vS a (fT vi 0 0) vj)) hx hb hts iwsRX12_arc_in12 tyX12 tyX12_ok nmX12 hown hK hP hD hS 0 rfl rfl 150 (by decide) (hts _ hm_r_X12_arc_1) (fun _ h9 => h9) rfl (by decide +kernel) rfl rfl (Nat.le_of_ble_eq_true rfl) dX12_arc_134 (fun H locs hP hD hS => ?_)
                  have hP : va_P (dC, dI) vwCl (WR a k h0 (fT (fT vi 0 0) 150 (nI (ar + 1))) vj (fT (fT (fT (fT vF 95 (upd (vF 95) ((nI ar)).toNatClampNeg aI)) 96 (upd (vF 96) ((nI ar)).toNatClampNeg bI)) 97 (upd (vF 97) ((nI ar)).toNatClampNeg rI)) 98 (upd (vF 98) ((nI ar)).toNatClampNeg pI)) vG) H := fz_w (WR_i 150 _ rfl) hP
                  have hD : va_D A (WR a k h0 (fT (fT vi 0 0) 150 (nI (ar + 1))) vj (fT (fT (fT (fT vF 95 (upd (vF 95) ((nI ar)).toNatClampNeg aI)) 96 (upd (vF 96) ((nI ar)).toNatClampNeg bI)) 97 (upd (vF 97) ((nI ar)).toNatClampNeg rI)) 98 (upd (vF 98) ((nI ar)).toNatClampNeg pI)) vG) := fz_wD (WR_i 150 _ rfl) hD
                  refine lv_aload_n hx hb dX12_arc_137 rfl (lv_at hl 1 rfl) ?_
                  refine va_get (D := (dC, dI)) (ci := 12) (v := .int (nI (ar + 1))) (C := RX12) (T := TX12) (N := 163) (fs := fM (vS a (fT (fT vi 0 0) 150 (nI (ar + 1))) vj)) hx hb hts iwsRX12_arc_in12 hown hK hP 0 rfl rfl 150 (by decide) (hts _ hm_r_X12_arc_1) (fun _ h9 => h9) rfl dX12_arc_138 ?_
                  refine lv_iconst (v := 1) hx hb dX12_arc_141 (by decide) ?_
                  refine lv_isub hx hb dX12_arc_142 ?_
                  refine W.widen (k := 0) (n := 0) (by decide +kernel) (by decide +kernel) ?_
                  exact W.iret (v := ((nI (ar + 1)) - 1)) hx hb hr (fun t9_ ht hW => ⟨⟨((nI (ar + 1)) - 1), (0, (ar + 1), (upd (vF 95) ((nI ar)).toNatClampNeg aI), (upd (vF 96) ((nI ar)).toNatClampNeg bI), (upd (vF 97) ((nI ar)).toNatClampNeg rI), (upd (vF 98) ((nI ar)).toNatClampNeg pI)), rfl, by (try dsimp only); exact Or.inr (Or.inr (⟨by omega, hAr.more (fun r hr9 => ⟨by rw [upd_at (by omega), if_neg (by omega)], by rw [upd_at (by omega), if_neg (by omega)], by rw [upd_at (by omega), if_neg (by omega)], by rw [upd_at (by omega), if_neg (by omega)]⟩) ⟨x5, y5, by omega, by omega, fun e9 => c_16 (by rw [ex5, ey5, e9]), by rw [upd_at (by omega), if_pos rfl]; exact ex5, by rw [upd_at (by omega), if_pos rfl]; exact ey5, by rw [upd_at (by omega), if_pos rfl]; omega, by rw [upd_at (by omega), if_pos rfl]; omega⟩, rfl, by omega, ntAdd_of (by omega) (nI_clamp (by omega)) rfl rfl rfl rfl, (pk_sub_toInt (a := ar + 1) (b := 1) (by omega) (by omega)).trans (by omega)⟩)), by rw [ht]; exact hP, hD⟩, hS.F ht⟩) hS.2.2 dX12_arc_143
                · have t_66 : ((ar : Nat) : Int) = 40 := toI_nne c_66 (nI_toInt (by omega)) (by decide)
                  refine lv_iconst (v := 2) hx hb dX12_arc_69 (by decide) ?_
                  refine lv_goto (tgt := 74) hx hb dX12_arc_70 (by decide) ?_
                  refine va_put (D := (dC, dI)) (ci := 12) (v := .int 2) (ty := .int) (C := RX12) (T := TX12) (N := 163) (fs := fM (vS a vi vj)) hx hb hts iwsRX12_arc_in12 tyX12 tyX12_ok nmX12 hown hK hP hD hS 0 rfl rfl 0 (by decide) (hts _ hm_r_X12_arc_0) (fun _ h9 => h9) rfl (by decide +kernel) rfl rfl (Nat.le_of_ble_eq_true rfl) dX12_arc_74 (fun H locs hP hD hS => ?_)
                  have hP : va_P (dC, dI) vwCl (WR a k h0 (fT vi 0 2) vj vF vG) H := fz_w (WR_i 0 _ rfl) hP
                  have hD : va_D A (WR a k h0 (fT vi 0 2) vj vF vG) := fz_wD (WR_i 0 _ rfl) hD
                  refine lv_aload_n hx hb dX12_arc_77 rfl (lv_at hl 1 rfl) ?_
                  refine va_get (D := (dC, dI)) (ci := 12) (v := .int 2) (C := RX12) (T := TX12) (N := 163) (fs := fM (vS a (fT vi 0 2) vj)) hx hb hts iwsRX12_arc_in12 hown hK hP 0 rfl rfl 0 (by decide) (hts _ hm_r_X12_arc_0) (fun _ h9 => h9) rfl dX12_arc_78 ?_
                  refine lv_if_le (tgt := 86) hx hb dX12_arc_81 (by decide) (fun c9 => absurd c9 (by decide)) (fun _ => ?_)
                  refine lv_iconst (v := 0) hx hb dX12_arc_84 (by decide) ?_
                  refine W.widen (k := 0) (n := 0) (by decide +kernel) (by decide +kernel) ?_
                  have e9 : fT (fT vi 0 2) 150 (nI ar) = fT vi 0 2 := Eq.trans (congrArg (fT _ 150) (show nI ar = vi 150 from (by first | with_reducible rfl | with_reducible assumption | (symm; with_reducible assumption) | rfl | assumption | (symm; assumption) | (subst_vars; rfl)))) (id_1 rfl)
                  have hP := wr_Pi e9 hP
                  have hD := wr_Di e9 hD
                  clear e9
                  have e9 : fT (fT (fT (fT vF 95 (vF 95)) 96 (vF 96)) 97 (vF 97)) 98 (vF 98) = vF := (fT_id _ _ ((fT_ne _ _ (Nat.ne_of_beq_eq_false rfl)).trans ((fT_ne _ _ (Nat.ne_of_beq_eq_false rfl)).trans (fT_ne _ _ (Nat.ne_of_beq_eq_false rfl))))).trans ((fT_id _ _ ((fT_ne _ _ (Nat.ne_of_beq_eq_false rfl)).trans (fT_ne _ _ (Nat.ne_of_beq_eq_false rfl)))).trans ((fT_id _ _ (fT_ne _ _ (Nat.ne_of_beq_eq_false rfl))).trans (fT_id _ _ (rfl))))
                  have hP := wr_PF e9 hP
                  have hD := wr_DF e9 hD
                  clear e9
                  exact W.iret (v := 0) hx hb hr (fun t9_ ht hW => ⟨⟨0, (2, ar, (vF 95), (vF 96), (vF 97), (vF 98)), rfl, by (try dsimp only); exact Or.inr (Or.inl (⟨by omega, hAr, rfl, by omega, rfl⟩)), by rw [ht]; exact hP, hD⟩, hS.F ht⟩) hS.2.2 dX12_arc_85
    · refine lv_if_eq (tgt := 47) hx hb dX12_arc_11 (by decide) (fun _ => ?_) (fun c9 => absurd (by decide) c9)
      refine lv_iconst (v := 0) hx hb dX12_arc_47 (by decide) ?_
      refine lv_istore hx hb dX12_arc_48 hl (by decide) rfl (fun ls (hl : lv_has ls _ ([(5, .int 0), (0, .ref h0), (1, .int aI), (2, .int bI), (3, .int rI), (4, .int pI)])) => ?_)
      refine lv_aload_n hx hb dX12_arc_50 rfl (lv_at hl 1 rfl) ?_
      refine lv_iload hx hb dX12_arc_51 (lv_at hl 0 rfl) ?_
      refine lv_if_ne (tgt := 60) hx hb dX12_arc_53 (by decide) (fun c9 => absurd c9 (by decide)) (fun _ => ?_)
      refine lv_iconst (v := 1) hx hb dX12_arc_56 (by decide) ?_
      refine lv_goto (tgt := 74) hx hb dX12_arc_57 (by decide) ?_
      refine va_put (D := (dC, dI)) (ci := 12) (v := .int 1) (ty := .int) (C := RX12) (T := TX12) (N := 163) (fs := fM (vS a vi vj)) hx hb hts iwsRX12_arc_in12 tyX12 tyX12_ok nmX12 hown hK hP hD hS 0 rfl rfl 0 (by decide) (hts _ hm_r_X12_arc_0) (fun _ h9 => h9) rfl (by decide +kernel) rfl rfl (Nat.le_of_ble_eq_true rfl) dX12_arc_74 (fun H locs hP hD hS => ?_)
      have hP : va_P (dC, dI) vwCl (WR a k h0 (fT vi 0 1) vj vF vG) H := fz_w (WR_i 0 _ rfl) hP
      have hD : va_D A (WR a k h0 (fT vi 0 1) vj vF vG) := fz_wD (WR_i 0 _ rfl) hD
      refine lv_aload_n hx hb dX12_arc_77 rfl (lv_at hl 1 rfl) ?_
      refine va_get (D := (dC, dI)) (ci := 12) (v := .int 1) (C := RX12) (T := TX12) (N := 163) (fs := fM (vS a (fT vi 0 1) vj)) hx hb hts iwsRX12_arc_in12 hown hK hP 0 rfl rfl 0 (by decide) (hts _ hm_r_X12_arc_0) (fun _ h9 => h9) rfl dX12_arc_78 ?_
      refine lv_if_le (tgt := 86) hx hb dX12_arc_81 (by decide) (fun c9 => absurd c9 (by decide)) (fun _ => ?_)
      refine lv_iconst (v := 0) hx hb dX12_arc_84 (by decide) ?_
      refine W.widen (k := 0) (n := 0) (by decide +kernel) (by decide +kernel) ?_
      have e9 : fT (fT vi 0 1) 150 (nI ar) = fT vi 0 1 := Eq.trans (congrArg (fT _ 150) (show nI ar = vi 150 from (by first | with_reducible rfl | with_reducible assumption | (symm; with_reducible assumption) | rfl | assumption | (symm; assumption) | (subst_vars; rfl)))) (id_1 rfl)
      have hP := wr_Pi e9 hP
      have hD := wr_Di e9 hD
      clear e9
      have e9 : fT (fT (fT (fT vF 95 (vF 95)) 96 (vF 96)) 97 (vF 97)) 98 (vF 98) = vF := (fT_id _ _ ((fT_ne _ _ (Nat.ne_of_beq_eq_false rfl)).trans ((fT_ne _ _ (Nat.ne_of_beq_eq_false rfl)).trans (fT_ne _ _ (Nat.ne_of_beq_eq_false rfl))))).trans ((fT_id _ _ ((fT_ne _ _ (Nat.ne_of_beq_eq_false rfl)).trans (fT_ne _ _ (Nat.ne_of_beq_eq_false rfl)))).trans ((fT_id _ _ (fT_ne _ _ (Nat.ne_of_beq_eq_false rfl))).trans (fT_id _ _ (rfl))))
      have hP := wr_PF e9 hP
      have hD := wr_DF e9 hD
      clear e9
      exact W.iret (v := 0) hx hb hr (fun t9_ ht hW => ⟨⟨0, (1, ar, (vF 95), (vF 96), (vF 97), (vF 98)), rfl, by (try dsimp only); exact Or.inl (⟨by omega, hAr, rfl, by omega, rfl⟩), by rw [ht]; exact hP, hD⟩, hS.F ht⟩) hS.2.2 dX12_arc_85
  · refine lv_if_eq (tgt := 47) hx hb dX12_arc_4 (by decide) (fun _ => ?_) (fun c9 => absurd (by decide) c9)
    refine lv_iconst (v := 0) hx hb dX12_arc_47 (by decide) ?_
    refine lv_istore hx hb dX12_arc_48 hl (by decide) rfl (fun ls (hl : lv_has ls _ ([(5, .int 0), (0, .ref h0), (1, .int aI), (2, .int bI), (3, .int rI), (4, .int pI)])) => ?_)
    refine lv_aload_n hx hb dX12_arc_50 rfl (lv_at hl 1 rfl) ?_
    refine lv_iload hx hb dX12_arc_51 (lv_at hl 0 rfl) ?_
    refine lv_if_ne (tgt := 60) hx hb dX12_arc_53 (by decide) (fun c9 => absurd c9 (by decide)) (fun _ => ?_)
    refine lv_iconst (v := 1) hx hb dX12_arc_56 (by decide) ?_
    refine lv_goto (tgt := 74) hx hb dX12_arc_57 (by decide) ?_
    refine va_put (D := (dC, dI)) (ci := 12) (v := .int 1) (ty := .int) (C := RX12) (T := TX12) (N := 163) (fs := fM (vS a vi vj)) hx hb hts iwsRX12_arc_in12 tyX12 tyX12_ok nmX12 hown hK hP hD hS 0 rfl rfl 0 (by decide) (hts _ hm_r_X12_arc_0) (fun _ h9 => h9) rfl (by decide +kernel) rfl rfl (Nat.le_of_ble_eq_true rfl) dX12_arc_74 (fun H locs hP hD hS => ?_)
    have hP : va_P (dC, dI) vwCl (WR a k h0 (fT vi 0 1) vj vF vG) H := fz_w (WR_i 0 _ rfl) hP
    have hD : va_D A (WR a k h0 (fT vi 0 1) vj vF vG) := fz_wD (WR_i 0 _ rfl) hD
    refine lv_aload_n hx hb dX12_arc_77 rfl (lv_at hl 1 rfl) ?_
    refine va_get (D := (dC, dI)) (ci := 12) (v := .int 1) (C := RX12) (T := TX12) (N := 163) (fs := fM (vS a (fT vi 0 1) vj)) hx hb hts iwsRX12_arc_in12 hown hK hP 0 rfl rfl 0 (by decide) (hts _ hm_r_X12_arc_0) (fun _ h9 => h9) rfl dX12_arc_78 ?_
    refine lv_if_le (tgt := 86) hx hb dX12_arc_81 (by decide) (fun c9 => absurd c9 (by decide)) (fun _ => ?_)
    refine lv_iconst (v := 0) hx hb dX12_arc_84 (by decide) ?_
    refine W.widen (k := 0) (n := 0) (by decide +kernel) (by decide +kernel) ?_
    have e9 : fT (fT vi 0 1) 150 (nI ar) = fT vi 0 1 := Eq.trans (congrArg (fT _ 150) (show nI ar = vi 150 from (by first | with_reducible rfl | with_reducible assumption | (symm; with_reducible assumption) | rfl | assumption | (symm; assumption) | (subst_vars; rfl)))) (id_1 rfl)
    have hP := wr_Pi e9 hP
    have hD := wr_Di e9 hD
    clear e9
    have e9 : fT (fT (fT (fT vF 95 (vF 95)) 96 (vF 96)) 97 (vF 97)) 98 (vF 98) = vF := (fT_id _ _ ((fT_ne _ _ (Nat.ne_of_beq_eq_false rfl)).trans ((fT_ne _ _ (Nat.ne_of_beq_eq_false rfl)).trans (fT_ne _ _ (Nat.ne_of_beq_eq_false rfl))))).trans ((fT_id _ _ ((fT_ne _ _ (Nat.ne_of_beq_eq_false rfl)).trans (fT_ne _ _ (Nat.ne_of_beq_eq_false rfl)))).trans ((fT_id _ _ (fT_ne _ _ (Nat.ne_of_beq_eq_false rfl))).trans (fT_id _ _ (rfl))))
    have hP := wr_PF e9 hP
    have hD := wr_DF e9 hD
    clear e9
    exact W.iret (v := 0) hx hb hr (fun t9_ ht hW => ⟨⟨0, (1, ar, (vF 95), (vF 96), (vF 97), (vF 98)), rfl, by (try dsimp only); exact Or.inl (⟨by omega, hAr, rfl, by omega, rfl⟩), by rw [ht]; exact hP, hD⟩, hS.F ht⟩) hS.2.2 dX12_arc_85
theorem dX12_unarc_0 : decode cX12_unarc 0 = .ok (.aload_n 0, 1) := dk_42 (by decide +kernel)
theorem dX12_unarc_1 : decode cX12_unarc 1 = .ok (.iconst 0, 1) := dk_3 (by decide +kernel)
theorem dX12_unarc_2 : decode cX12_unarc 2 = .ok (.putfield 348, 3) := dk_181 (by decide +kernel)
theorem dX12_unarc_5 : decode cX12_unarc 5 = .ok (.aload_n 0, 1) := dk_42 (by decide +kernel)
theorem dX12_unarc_6 : decode cX12_unarc 6 = .ok (.getfield 1069, 3) := dk_180 (by decide +kernel)
theorem dX12_unarc_9 : decode cX12_unarc 9 = .ok (.ifCond .ne 5, 3) := dk_154 (by decide +kernel)
theorem dX12_unarc_12 : decode cX12_unarc 12 = .ok (.iconst 0, 1) := dk_3 (by decide +kernel)
theorem dX12_unarc_13 : decode cX12_unarc 13 = .ok (.ireturn, 1) := dk_172 (by decide +kernel)
theorem dX12_unarc_14 : decode cX12_unarc 14 = .ok (.aload_n 0, 1) := dk_42 (by decide +kernel)
theorem dX12_unarc_15 : decode cX12_unarc 15 = .ok (.dup, 1) := dk_89 (by decide +kernel)
theorem dX12_unarc_16 : decode cX12_unarc 16 = .ok (.getfield 1069, 3) := dk_180 (by decide +kernel)
theorem dX12_unarc_19 : decode cX12_unarc 19 = .ok (.iconst 1, 1) := dk_4 (by decide +kernel)
theorem dX12_unarc_20 : decode cX12_unarc 20 = .ok (.isub, 1) := dk_100 (by decide +kernel)
theorem dX12_unarc_21 : decode cX12_unarc 21 = .ok (.putfield 1069, 3) := dk_181 (by decide +kernel)
theorem dX12_unarc_24 : decode cX12_unarc 24 = .ok (.iconst 1, 1) := dk_4 (by decide +kernel)
theorem dX12_unarc_25 : decode cX12_unarc 25 = .ok (.ireturn, 1) := dk_172 (by decide +kernel)
def wsRX12_unarc : List Cond := .code yX12_unarc cX12_unarc 1 (some .boolean) :: ([.fieldLink RX12 348 "OptimaWorksModel" "thrown" "I", .fieldLink RX12 1069 "OptimaWorksModel" "arcs" "I"] ++ wsX120)
theorem iwsRX12_unarc_in12 : ∀ w ∈ wsX120, w ∈ wsRX12_unarc := fun _ h => List.mem_cons_of_mem _ (List.mem_append_right _ h)
theorem gdwsRX12_unarc : wsRX12_unarc.all goodWord = true := gdC rfl (gdA (by decide +kernel : ([.fieldLink RX12 348 "OptimaWorksModel" "thrown" "I", .fieldLink RX12 1069 "OptimaWorksModel" "arcs" "I"] : List Cond).all goodWord = true) gdwsX120)
theorem hm_r_X12_unarc_0 : (.fieldLink RX12 1069 "OptimaWorksModel" "arcs" "I" : Cond) ∈ wsRX12_unarc := by decide +kernel
set_option maxHeartbeats 4000000 in
set_option maxRecDepth 100000 in
/-- unarc() -/
theorem r_X12_unarc (l : Launch) (dC : Nat → ClassId) (dI : Nat → Nat → Nat) (a : Nat → Nat) (k : Nat → ClassId) (h0 : Nat) (vi : Nat → Int32) (vj : Nat → Int64) (vF : Nat → Nat → Int32) (vG : Nat → Nat → Int64) (ar : Nat) (har : vi 150 = nI ar) (har40 : ar ≤ 40) (sz : Nat) : Met l yX12_unarc wsRX12_unarc ({ frames := 0, cells := 0, slots := 0, locals := 0 }) (va_Pc [.ref h0] (fun U => U.heap.size = sz ∧ va_P (dC, dI) vwCl (WR a k h0 vi vj vF vG) U.heap ∧ va_K (dC, dI) vwCl (tX12 k) U ∧ va_D (fun _ => True) (WR a k h0 vi vj vF vG))) (va_Qi (fun (r : Int32) (u : Nat) => ((u ≤ ar) ∧ (ar = 0 ∧ u = 0) ∧ (r = 0)) ∨ ((u ≤ ar) ∧ (0 < ar ∧ u + 1 = ar) ∧ (r = 1))) (fun (u : Nat) t => va_P (dC, dI) vwCl (WR a k h0 (fT (fT vi 0 0) 150 (nI u)) vj vF vG) t.heap ∧ va_D (va_A (WR a k h0 vi vj vF vG) sz) (WR a k h0 (fT (fT vi 0 0) 150 (nI u)) vj vF vG)) (va_A (WR a k h0 vi vj vF vG) sz)) 0 0 (va_A (WR a k h0 vi vj vF vG) sz) := by
  refine Met.ofW (cc := cX12_unarc) (maxL := 1) (ret := (some .boolean)) (by decide) rfl ?_
  intro p e s m args below meth c s₁ B hml hv
  obtain ⟨rfl, hsz, hP, hK, hD0⟩ := hv
  have hx := B.exec
  have hb := B.bytes
  have hr := B.returns
  have hts := atoms_spec (ws := wsRX12_unarc) B.pre
  have hown : s.vm.findClass RX12 = some m.cls := findClass_of_methodNamed B.named
  have hlocks := B.notSynchronized
  subst hsz
  have hD := hD0.self (sz := s.heap.size)
  generalize hAe : va_A (WR a k h0 vi vj vF vG) s.heap.size = A at hD ⊢
  have hA : ∀ q : Nat, s.heap.size ≤ q → A q := fun q h => by rw [← hAe]; exact Or.inr h
  have hS : va_S A s.heap s.heap [] := va_S.rf
  have hl := lv_entry ([.ref h0]) (n := 1) (Nat.le_of_ble_eq_true rfl)
  rw [lg_entry_eq]
  generalize (lg_sl ([.ref h0]) ++ List.replicate (1 - (lg_sl ([.ref h0])).length) Slot.unset).toArray = ls at hl ⊢
  have hl : lv_has ls 1 [(0, .ref h0)] := hl
  refine lv_aload_n hx hb dX12_unarc_0 rfl (lv_at hl 0 rfl) ?_
  refine lv_iconst (v := 0) hx hb dX12_unarc_1 (by decide) ?_
  refine va_put (D := (dC, dI)) (ci := 12) (v := .int 0) (ty := .int) (C := RX12) (T := TX12) (N := 163) (fs := fM (vS a vi vj)) hx hb hts iwsRX12_unarc_in12 tyX12 tyX12_ok nmX12 hown hK hP hD hS 0 rfl rfl 0 (by decide) (hts (.fieldLink RX12 348 "OptimaWorksModel" "thrown" "I") (by decide +kernel)) (fun _ h9 => h9) rfl (by decide +kernel) rfl rfl (Nat.le_of_ble_eq_true rfl) dX12_unarc_2 (fun H locs hP hD hS => ?_)
  have hP : va_P (dC, dI) vwCl (WR a k h0 (fT vi 0 0) vj vF vG) H := fz_w (WR_i 0 _ rfl) hP
  have hD : va_D A (WR a k h0 (fT vi 0 0) vj vF vG) := fz_wD (WR_i 0 _ rfl) hD
  refine lv_aload_n hx hb dX12_unarc_5 rfl (lv_at hl 0 rfl) ?_
  refine va_get (D := (dC, dI)) (ci := 12) (v := .int (vi 150)) (C := RX12) (T := TX12) (N := 163) (fs := fM (vS a (fT vi 0 0) vj)) hx hb hts iwsRX12_unarc_in12 hown hK hP 0 rfl rfl 150 (by decide) (hts _ hm_r_X12_unarc_0) (fun _ h9 => h9) rfl dX12_unarc_6 ?_
  refine lv_topi (fun y1 hy1 => ?_)
  obtain rfl : (nI ar) = y1 := (hy1.trans (har)).symm
  refine lv_if_ne (tgt := 14) hx hb dX12_unarc_9 (by decide) (fun c_9 => ?_) (fun c_9 => ?_)
  · have t_9 : ((ar : Nat) : Int) ≠ 0 := toI_ne c_9 (nI_toInt (by omega)) (by decide)
    refine lv_aload_n hx hb dX12_unarc_14 rfl (lv_at hl 0 rfl) ?_
    refine lv_dup hx hb dX12_unarc_15 rfl ?_
    refine va_get (D := (dC, dI)) (ci := 12) (v := .int (vi 150)) (C := RX12) (T := TX12) (N := 163) (fs := fM (vS a (fT vi 0 0) vj)) hx hb hts iwsRX12_unarc_in12 hown hK hP 0 rfl rfl 150 (by decide) (hts _ hm_r_X12_unarc_0) (fun _ h9 => h9) rfl dX12_unarc_16 ?_
    refine lv_topi (fun y2 hy2 => ?_)
    obtain rfl : (nI ar) = y2 := (hy2.trans (har)).symm
    refine lv_iconst (v := 1) hx hb dX12_unarc_19 (by decide) ?_
    refine lv_isub hx hb dX12_unarc_20 ?_
    refine lv_topi (fun y3 hy3 => ?_)
    obtain rfl : (nI (ar - 1)) = y3 := (hy3.trans (pk_sub (a := ar) (b := 1) (by omega))).symm
    refine va_put (D := (dC, dI)) (ci := 12) (v := .int (nI (ar - 1))) (ty := .int) (C := RX12) (T := TX12) (N := 163) (fs := fM (vS a (fT vi 0 0) vj)) hx hb hts iwsRX12_unarc_in12 tyX12 tyX12_ok nmX12 hown hK hP hD hS 0 rfl rfl 150 (by decide) (hts _ hm_r_X12_unarc_0) (fun _ h9 => h9) rfl (by decide +kernel) rfl rfl (Nat.le_of_ble_eq_true rfl) dX12_unarc_21 (fun H locs hP hD hS => ?_)
    have hP : va_P (dC, dI) vwCl (WR a k h0 (fT (fT vi 0 0) 150 (nI (ar - 1))) vj vF vG) H := fz_w (WR_i 150 _ rfl) hP
    have hD : va_D A (WR a k h0 (fT (fT vi 0 0) 150 (nI (ar - 1))) vj vF vG) := fz_wD (WR_i 150 _ rfl) hD
    refine lv_iconst (v := 1) hx hb dX12_unarc_24 (by decide) ?_
    refine W.widen (k := 0) (n := 0) (by decide +kernel) (by decide +kernel) ?_
    exact W.zret (v := 1) hx hb hr rfl (fun t9_ ht hW => ⟨⟨1, (ar - 1), rfl, by (try dsimp only); exact Or.inr ⟨by omega, by omega, rfl⟩, by rw [ht]; exact hP, hD⟩, hS.F ht⟩) hS.2.2 dX12_unarc_25
  · have t_9 : ((ar : Nat) : Int) = 0 := toI_nne c_9 (nI_toInt (by omega)) (by decide)
    refine lv_iconst (v := 0) hx hb dX12_unarc_12 (by decide) ?_
    refine W.widen (k := 0) (n := 0) (by decide +kernel) (by decide +kernel) ?_
    have e9 : fT (fT vi 0 0) 150 (nI ar) = fT vi 0 0 := Eq.trans (congrArg (fT _ 150) (show nI ar = vi 150 from (by first | with_reducible rfl | with_reducible assumption | (symm; with_reducible assumption) | rfl | assumption | (symm; assumption) | (subst_vars; rfl)))) (id_1 rfl)
    have hP := wr_Pi e9 hP
    have hD := wr_Di e9 hD
    clear e9
    exact W.zret (v := 0) hx hb hr rfl (fun t9_ ht hW => ⟨⟨0, ar, rfl, by (try dsimp only); exact Or.inl ⟨by omega, by omega, rfl⟩, by rw [ht]; exact hP, hD⟩, hS.F ht⟩) hS.2.2 dX12_unarc_13
theorem dX12_areEnds_0 : decode cX12_areEnds 0 = .ok (.aload_n 0, 1) := dk_42 (by decide +kernel)
theorem dX12_areEnds_1 : decode cX12_areEnds 1 = .ok (.iload_n 1, 1) := dk_27 (by decide +kernel)
theorem dX12_areEnds_2 : decode cX12_areEnds 2 = .ok (.invokestatic 1066, 3) := dk_184 (by decide +kernel)
theorem dX12_areEnds_5 : decode cX12_areEnds 5 = .ok (.ifCond .eq 10, 3) := dk_153 (by decide +kernel)
theorem dX12_areEnds_8 : decode cX12_areEnds 8 = .ok (.iload_n 2, 1) := dk_28 (by decide +kernel)
theorem dX12_areEnds_9 : decode cX12_areEnds 9 = .ok (.invokestatic 1066, 3) := dk_184 (by decide +kernel)
theorem dX12_areEnds_12 : decode cX12_areEnds 12 = .ok (.ifCond .ne 7, 3) := dk_154 (by decide +kernel)
theorem dX12_areEnds_15 : decode cX12_areEnds 15 = .ok (.iconst 1, 1) := dk_4 (by decide +kernel)
theorem dX12_areEnds_16 : decode cX12_areEnds 16 = .ok (.goto 13, 3) := dk_167 (by decide +kernel)
theorem dX12_areEnds_19 : decode cX12_areEnds 19 = .ok (.iload_n 1, 1) := dk_27 (by decide +kernel)
theorem dX12_areEnds_20 : decode cX12_areEnds 20 = .ok (.iload_n 2, 1) := dk_28 (by decide +kernel)
theorem dX12_areEnds_21 : decode cX12_areEnds 21 = .ok (.if_icmp .ne 7, 3) := dk_160 (by decide +kernel)
theorem dX12_areEnds_24 : decode cX12_areEnds 24 = .ok (.iconst 2, 1) := dk_5 (by decide +kernel)
theorem dX12_areEnds_25 : decode cX12_areEnds 25 = .ok (.goto 4, 3) := dk_167 (by decide +kernel)
theorem dX12_areEnds_28 : decode cX12_areEnds 28 = .ok (.iconst 0, 1) := dk_3 (by decide +kernel)
theorem dX12_areEnds_29 : decode cX12_areEnds 29 = .ok (.putfield 348, 3) := dk_181 (by decide +kernel)
theorem dX12_areEnds_32 : decode cX12_areEnds 32 = .ok (.aload_n 0, 1) := dk_42 (by decide +kernel)
theorem dX12_areEnds_33 : decode cX12_areEnds 33 = .ok (.getfield 348, 3) := dk_180 (by decide +kernel)
theorem dX12_areEnds_36 : decode cX12_areEnds 36 = .ok (.ifCond .ne 7, 3) := dk_154 (by decide +kernel)
theorem dX12_areEnds_39 : decode cX12_areEnds 39 = .ok (.iconst 1, 1) := dk_4 (by decide +kernel)
theorem dX12_areEnds_40 : decode cX12_areEnds 40 = .ok (.goto 4, 3) := dk_167 (by decide +kernel)
theorem dX12_areEnds_43 : decode cX12_areEnds 43 = .ok (.iconst 0, 1) := dk_3 (by decide +kernel)
theorem dX12_areEnds_44 : decode cX12_areEnds 44 = .ok (.ireturn, 1) := dk_172 (by decide +kernel)
def wsRX12_areEnds : List Cond := .code yX12_areEnds cX12_areEnds 3 (some .boolean) :: ([.fieldLink RX12 348 "OptimaWorksModel" "thrown" "I"] ++ wsX120 ++ (va_wsS RX12 1066 yX12_isPlace wsRX12_isPlace))
theorem iwsRX12_areEnds_in12 : ∀ w ∈ wsX120, w ∈ wsRX12_areEnds := fun _ h => List.mem_cons_of_mem _ (List.mem_append_left _ (List.mem_append_right _ h))
theorem gwsRX12_areEnds_0 : GoodIn wsRX12_areEnds (va_wsS RX12 1066 yX12_isPlace wsRX12_isPlace) := goodIn_sub (fun _ h => List.mem_cons_of_mem _ (List.mem_append_right _ h)) (gdS (by decide +kernel) gdwsRX12_isPlace)
theorem gdwsRX12_areEnds : wsRX12_areEnds.all goodWord = true := gdC rfl (gdA (gdA (by decide +kernel : ([.fieldLink RX12 348 "OptimaWorksModel" "thrown" "I"] : List Cond).all goodWord = true) gdwsX120) (gdS (by decide +kernel) gdwsRX12_isPlace))
theorem hm_r_X12_areEnds_0 : (.fieldLink RX12 348 "OptimaWorksModel" "thrown" "I" : Cond) ∈ wsRX12_areEnds := by decide +kernel
set_option maxHeartbeats 4000000 in
set_option maxRecDepth 100000 in
/-- areEnds(s, t) -/
theorem r_X12_areEnds (l : Launch) (dC : Nat → ClassId) (dI : Nat → Nat → Nat) (a : Nat → Nat) (k : Nat → ClassId) (h0 : Nat) (vi : Nat → Int32) (vj : Nat → Int64) (vF : Nat → Nat → Int32) (vG : Nat → Nat → Int64) (sI : Int32) (tI : Int32) (sz : Nat) : Met l yX12_areEnds wsRX12_areEnds ({ frames := 1, cells := 0, slots := 0, locals := 20 }) (va_Pc [.ref h0, .int sI, .int tI] (fun U => U.heap.size = sz ∧ va_P (dC, dI) vwCl (WR a k h0 vi vj vF vG) U.heap ∧ va_K (dC, dI) vwCl (tX12 k) U ∧ va_D (fun _ => True) (WR a k h0 vi vj vF vG))) (va_Qi (fun (r : Int32) (u : Int32) => (r = 1 ∧ (0 ≤ (sI).toInt ∧ (sI).toInt < 12) ∧ (0 ≤ (tI).toInt ∧ (tI).toInt < 12) ∧ (sI ≠ tI) ∧ (u = 0)) ∨ (r = 0 ∧ ((u = 1 ∧ ¬ ((0 ≤ (sI).toInt ∧ (sI).toInt ≤ 11) ∧ 0 ≤ (tI).toInt ∧ (tI).toInt ≤ 11)) ∨ (u = 2 ∧ ((0 ≤ (sI).toInt ∧ (sI).toInt ≤ 11) ∧ 0 ≤ (tI).toInt ∧ (tI).toInt ≤ 11) ∧ (sI).toInt = (tI).toInt)))) (fun (u : Int32) t => va_P (dC, dI) vwCl (WR a k h0 (fT vi 0 u) vj vF vG) t.heap ∧ va_D (va_A (WR a k h0 vi vj vF vG) sz) (WR a k h0 (fT vi 0 u) vj vF vG)) (va_A (WR a k h0 vi vj vF vG) sz)) 0 0 (va_A (WR a k h0 vi vj vF vG) sz) := by
  refine Met.ofW (cc := cX12_areEnds) (maxL := 3) (ret := (some .boolean)) (by decide) rfl ?_
  intro p e s m args below meth c s₁ B hml hv
  obtain ⟨rfl, hsz, hP, hK, hD0⟩ := hv
  have hx := B.exec
  have hb := B.bytes
  have hr := B.returns
  have hts := atoms_spec (ws := wsRX12_areEnds) B.pre
  have hown : s.vm.findClass RX12 = some m.cls := findClass_of_methodNamed B.named
  have hlocks := B.notSynchronized
  subst hsz
  have hD := hD0.self (sz := s.heap.size)
  generalize hAe : va_A (WR a k h0 vi vj vF vG) s.heap.size = A at hD ⊢
  have hA : ∀ q : Nat, s.heap.size ≤ q → A q := fun q h => by rw [← hAe]; exact Or.inr h
  have hS : va_S A s.heap s.heap [] := va_S.rf
  have hl := lv_entry ([.ref h0, .int sI, .int tI]) (n := 3) (Nat.le_of_ble_eq_true rfl)
  rw [lg_entry_eq]
  generalize (lg_sl ([.ref h0, .int sI, .int tI]) ++ List.replicate (3 - (lg_sl ([.ref h0, .int sI, .int tI])).length) Slot.unset).toArray = ls at hl ⊢
  have hl : lv_has ls 3 [(0, .ref h0), (1, .int sI), (2, .int tI)] := hl
  refine lv_aload_n hx hb dX12_areEnds_0 rfl (lv_at hl 0 rfl) ?_
  refine lv_iload_n hx hb dX12_areEnds_1 rfl (lv_at hl 1 rfl) ?_
  have hFc := noneFree hS hA
  refine va_calli (va_runS (As := [.int sI]) (rest := [.ref h0]) ⟨hx, hb, hml, hown, hts⟩ (r_X12_isPlace l dC dI sI s.heap.size) (va_cwS 1 hts gwsRX12_areEnds_0 rfl rfl rfl (by decide +kernel) ⟨by decide +kernel, by decide +kernel⟩) ⟨fun a U g mk q => by obtain ⟨q0, q1, qP, qK, qD⟩ := q; exact ⟨q0, q1, qP, va_K.moved (u := U) (U := U.calling g mk a) (Vm.Alike.refl U.vm) qK, qD⟩, fun U hU9 hW => ⟨rfl, by rw [hU9], by rw [hU9]; exact nilP, va_K.moved hW.alike (hK.sub (tys' := []) [] rfl), nilD⟩⟩ rfl rfl hl.1 rfl (lv_room (Nat.le_of_ble_eq_true rfl)) dX12_areEnds_2 (by decide +kernel)) hS (fun q _ h => hFc q h) hFc (fun r2 u t9_ H1 locs ht hvm hw9 hB9 hz1 hk1 hS => ?_)
  have hP := keepAll hP hk1
  clear hB9
  generalize H1 = H at hP hS ⊢
  have hP : va_P (dC, dI) vwCl (WR a k h0 vi vj vF vG) H := hP
  have hD := fz_sd hP (hD) rfl
  rcases hw9 with ⟨rfl, f2_0⟩ | ⟨rfl, f2_0⟩
  · refine lv_if_eq (tgt := 15) hx hb dX12_areEnds_5 (by decide) (fun c9 => absurd c9 (by decide)) (fun _ => ?_)
    refine lv_iload_n hx hb dX12_areEnds_8 rfl (lv_at hl 2 rfl) ?_
    have hFc := noneFree hS hA
    refine va_calli (va_runS (As := [.int tI]) (rest := [.ref h0]) ⟨hx, hb, hml, hown, hts⟩ (r_X12_isPlace l dC dI tI H.size) (va_cwS 1 hts gwsRX12_areEnds_0 rfl rfl rfl (by decide +kernel) ⟨by decide +kernel, by decide +kernel⟩) ⟨fun a U g mk q => by obtain ⟨q0, q1, qP, qK, qD⟩ := q; exact ⟨q0, q1, qP, va_K.moved (u := U) (U := U.calling g mk a) (Vm.Alike.refl U.vm) qK, qD⟩, fun U hU9 hW => ⟨rfl, by rw [hU9], by rw [hU9]; exact nilP, va_K.moved hW.alike (hK.sub (tys' := []) [] rfl), nilD⟩⟩ rfl rfl hl.1 rfl (lv_room (Nat.le_of_ble_eq_true rfl)) dX12_areEnds_9 (by decide +kernel)) hS (fun q _ h => hFc q h) hFc (fun r9 u t9_ H1 locs ht hvm hw9 hB9 hz1 hk1 hS => ?_)
    have hP := keepAll hP hk1
    clear hB9
    generalize H1 = H at hP hS ⊢
    have hP : va_P (dC, dI) vwCl (WR a k h0 vi vj vF vG) H := hP
    have hD := fz_sd hP (hD) rfl
    rcases hw9 with ⟨rfl, f9_0⟩ | ⟨rfl, f9_0⟩
    · refine lv_if_ne (tgt := 19) hx hb dX12_areEnds_12 (by decide) (fun _ => ?_) (fun c9 => absurd c9 (by decide))
      refine lv_iload_n hx hb dX12_areEnds_19 rfl (lv_at hl 1 rfl) ?_
      refine lv_iload_n hx hb dX12_areEnds_20 rfl (lv_at hl 2 rfl) ?_
      refine lv_icmp_ne (tgt := 28) hx hb dX12_areEnds_21 (by decide) (fun c_21 => ?_) (fun c_21 => ?_)
      · have t_21 : (sI).toInt ≠ (tI).toInt := toI_ne c_21 rfl rfl
        refine lv_iconst (v := 0) hx hb dX12_areEnds_28 (by decide) ?_
        refine va_put (D := (dC, dI)) (ci := 12) (v := .int 0) (ty := .int) (C := RX12) (T := TX12) (N := 163) (fs := fM (vS a vi vj)) hx hb hts iwsRX12_areEnds_in12 tyX12 tyX12_ok nmX12 hown hK hP hD hS 0 rfl rfl 0 (by decide) (hts _ hm_r_X12_areEnds_0) (fun _ h9 => h9) rfl (by decide +kernel) rfl rfl (Nat.le_of_ble_eq_true rfl) dX12_areEnds_29 (fun H locs hP hD hS => ?_)
        have hP : va_P (dC, dI) vwCl (WR a k h0 (fT vi 0 0) vj vF vG) H := fz_w (WR_i 0 _ rfl) hP
        have hD : va_D A (WR a k h0 (fT vi 0 0) vj vF vG) := fz_wD (WR_i 0 _ rfl) hD
        refine lv_aload_n hx hb dX12_areEnds_32 rfl (lv_at hl 0 rfl) ?_
        refine va_get (D := (dC, dI)) (ci := 12) (v := .int 0) (C := RX12) (T := TX12) (N := 163) (fs := fM (vS a (fT vi 0 0) vj)) hx hb hts iwsRX12_areEnds_in12 hown hK hP 0 rfl rfl 0 (by decide) (hts _ hm_r_X12_areEnds_0) (fun _ h9 => h9) rfl dX12_areEnds_33 ?_
        refine lv_if_ne (tgt := 43) hx hb dX12_areEnds_36 (by decide) (fun c9 => absurd c9 (by decide)) (fun _ => ?_)
        refine lv_iconst (v := 1) hx hb dX12_areEnds_39 (by decide) ?_
        refine lv_goto (tgt := 44) hx hb dX12_areEnds_40 (by decide) ?_
        refine W.widen (k := 0) (n := 0) (by decide +kernel) (by decide +kernel) ?_
        exact W.zret (v := 1) hx hb hr rfl (fun t9_ ht hW => ⟨⟨1, 0, rfl, by (try dsimp only); exact Or.inl ⟨rfl, f2_0, f9_0, c_21, rfl⟩, by rw [ht]; exact hP, hD⟩, hS.F ht⟩) hS.2.2 dX12_areEnds_44
      · have t_21 : (sI).toInt = (tI).toInt := toI_nne c_21 rfl rfl
        refine lv_iconst (v := 2) hx hb dX12_areEnds_24 (by decide) ?_
        refine lv_goto (tgt := 29) hx hb dX12_areEnds_25 (by decide) ?_
        refine va_put (D := (dC, dI)) (ci := 12) (v := .int 2) (ty := .int) (C := RX12) (T := TX12) (N := 163) (fs := fM (vS a vi vj)) hx hb hts iwsRX12_areEnds_in12 tyX12 tyX12_ok nmX12 hown hK hP hD hS 0 rfl rfl 0 (by decide) (hts _ hm_r_X12_areEnds_0) (fun _ h9 => h9) rfl (by decide +kernel) rfl rfl (Nat.le_of_ble_eq_true rfl) dX12_areEnds_29 (fun H locs hP hD hS => ?_)
        have hP : va_P (dC, dI) vwCl (WR a k h0 (fT vi 0 2) vj vF vG) H := fz_w (WR_i 0 _ rfl) hP
        have hD : va_D A (WR a k h0 (fT vi 0 2) vj vF vG) := fz_wD (WR_i 0 _ rfl) hD
        refine lv_aload_n hx hb dX12_areEnds_32 rfl (lv_at hl 0 rfl) ?_
        refine va_get (D := (dC, dI)) (ci := 12) (v := .int 2) (C := RX12) (T := TX12) (N := 163) (fs := fM (vS a (fT vi 0 2) vj)) hx hb hts iwsRX12_areEnds_in12 hown hK hP 0 rfl rfl 0 (by decide) (hts _ hm_r_X12_areEnds_0) (fun _ h9 => h9) rfl dX12_areEnds_33 ?_
        refine lv_if_ne (tgt := 43) hx hb dX12_areEnds_36 (by decide) (fun _ => ?_) (fun c9 => absurd c9 (by decide))
        refine lv_iconst (v := 0) hx hb dX12_areEnds_43 (by decide) ?_
        refine W.widen (k := 0) (n := 0) (by decide +kernel) (by decide +kernel) ?_
        exact W.zret (v := 0) hx hb hr rfl (fun t9_ ht hW => ⟨⟨0, 2, rfl, by (try dsimp only); exact Or.inr ⟨rfl, Or.inr ⟨rfl, by omega, by omega⟩⟩, by rw [ht]; exact hP, hD⟩, hS.F ht⟩) hS.2.2 dX12_areEnds_44
    · refine lv_if_ne (tgt := 19) hx hb dX12_areEnds_12 (by decide) (fun c9 => absurd c9 (by decide)) (fun _ => ?_)
      refine lv_iconst (v := 1) hx hb dX12_areEnds_15 (by decide) ?_
      refine lv_goto (tgt := 29) hx hb dX12_areEnds_16 (by decide) ?_
      refine va_put (D := (dC, dI)) (ci := 12) (v := .int 1) (ty := .int) (C := RX12) (T := TX12) (N := 163) (fs := fM (vS a vi vj)) hx hb hts iwsRX12_areEnds_in12 tyX12 tyX12_ok nmX12 hown hK hP hD hS 0 rfl rfl 0 (by decide) (hts _ hm_r_X12_areEnds_0) (fun _ h9 => h9) rfl (by decide +kernel) rfl rfl (Nat.le_of_ble_eq_true rfl) dX12_areEnds_29 (fun H locs hP hD hS => ?_)
      have hP : va_P (dC, dI) vwCl (WR a k h0 (fT vi 0 1) vj vF vG) H := fz_w (WR_i 0 _ rfl) hP
      have hD : va_D A (WR a k h0 (fT vi 0 1) vj vF vG) := fz_wD (WR_i 0 _ rfl) hD
      refine lv_aload_n hx hb dX12_areEnds_32 rfl (lv_at hl 0 rfl) ?_
      refine va_get (D := (dC, dI)) (ci := 12) (v := .int 1) (C := RX12) (T := TX12) (N := 163) (fs := fM (vS a (fT vi 0 1) vj)) hx hb hts iwsRX12_areEnds_in12 hown hK hP 0 rfl rfl 0 (by decide) (hts _ hm_r_X12_areEnds_0) (fun _ h9 => h9) rfl dX12_areEnds_33 ?_
      refine lv_if_ne (tgt := 43) hx hb dX12_areEnds_36 (by decide) (fun _ => ?_) (fun c9 => absurd c9 (by decide))
      refine lv_iconst (v := 0) hx hb dX12_areEnds_43 (by decide) ?_
      refine W.widen (k := 0) (n := 0) (by decide +kernel) (by decide +kernel) ?_
      exact W.zret (v := 0) hx hb hr rfl (fun t9_ ht hW => ⟨⟨0, 1, rfl, by (try dsimp only); exact Or.inr ⟨rfl, Or.inl ⟨rfl, by omega⟩⟩, by rw [ht]; exact hP, hD⟩, hS.F ht⟩) hS.2.2 dX12_areEnds_44
  · refine lv_if_eq (tgt := 15) hx hb dX12_areEnds_5 (by decide) (fun _ => ?_) (fun c9 => absurd (by decide) c9)
    refine lv_iconst (v := 1) hx hb dX12_areEnds_15 (by decide) ?_
    refine lv_goto (tgt := 29) hx hb dX12_areEnds_16 (by decide) ?_
    refine va_put (D := (dC, dI)) (ci := 12) (v := .int 1) (ty := .int) (C := RX12) (T := TX12) (N := 163) (fs := fM (vS a vi vj)) hx hb hts iwsRX12_areEnds_in12 tyX12 tyX12_ok nmX12 hown hK hP hD hS 0 rfl rfl 0 (by decide) (hts _ hm_r_X12_areEnds_0) (fun _ h9 => h9) rfl (by decide +kernel) rfl rfl (Nat.le_of_ble_eq_true rfl) dX12_areEnds_29 (fun H locs hP hD hS => ?_)
    have hP : va_P (dC, dI) vwCl (WR a k h0 (fT vi 0 1) vj vF vG) H := fz_w (WR_i 0 _ rfl) hP
    have hD : va_D A (WR a k h0 (fT vi 0 1) vj vF vG) := fz_wD (WR_i 0 _ rfl) hD
    refine lv_aload_n hx hb dX12_areEnds_32 rfl (lv_at hl 0 rfl) ?_
    refine va_get (D := (dC, dI)) (ci := 12) (v := .int 1) (C := RX12) (T := TX12) (N := 163) (fs := fM (vS a (fT vi 0 1) vj)) hx hb hts iwsRX12_areEnds_in12 hown hK hP 0 rfl rfl 0 (by decide) (hts _ hm_r_X12_areEnds_0) (fun _ h9 => h9) rfl dX12_areEnds_33 ?_
    refine lv_if_ne (tgt := 43) hx hb dX12_areEnds_36 (by decide) (fun _ => ?_) (fun c9 => absurd c9 (by decide))
    refine lv_iconst (v := 0) hx hb dX12_areEnds_43 (by decide) ?_
    refine W.widen (k := 0) (n := 0) (by decide +kernel) (by decide +kernel) ?_
    exact W.zret (v := 0) hx hb hr rfl (fun t9_ ht hW => ⟨⟨0, 1, rfl, by (try dsimp only); exact Or.inr ⟨rfl, Or.inl ⟨rfl, by omega⟩⟩, by rw [ht]; exact hP, hD⟩, hS.F ht⟩) hS.2.2 dX12_areEnds_44
theorem dX12_link_0 : decode cX12_link 0 = .ok (.iconst (-1), 1) := dk_2 (by decide +kernel)
theorem dX12_link_1 : decode cX12_link 1 = .ok (.istore_n 3, 1) := dk_62 (by decide +kernel)
theorem dX12_link_2 : decode cX12_link 2 = .ok (.iconst 0, 1) := dk_3 (by decide +kernel)
theorem dX12_link_3 : decode cX12_link 3 = .ok (.istore 4, 2) := dk_54 (by decide +kernel)
theorem dX12_link_5 : decode cX12_link 5 = .ok (.iload 4, 2) := dk_21 (by decide +kernel)
theorem dX12_link_7 : decode cX12_link 7 = .ok (.aload_n 0, 1) := dk_42 (by decide +kernel)
theorem dX12_link_8 : decode cX12_link 8 = .ok (.getfield 1069, 3) := dk_180 (by decide +kernel)
theorem dX12_link_11 : decode cX12_link 11 = .ok (.if_icmp .ge 55, 3) := dk_162 (by decide +kernel)
theorem dX12_link_14 : decode cX12_link 14 = .ok (.aload_n 0, 1) := dk_42 (by decide +kernel)
theorem dX12_link_15 : decode cX12_link 15 = .ok (.getfield 312, 3) := dk_180 (by decide +kernel)
theorem dX12_link_18 : decode cX12_link 18 = .ok (.iload 4, 2) := dk_21 (by decide +kernel)
theorem dX12_link_20 : decode cX12_link 20 = .ok (.iaload, 1) := dk_46 (by decide +kernel)
theorem dX12_link_21 : decode cX12_link 21 = .ok (.iload_n 1, 1) := dk_27 (by decide +kernel)
theorem dX12_link_22 : decode cX12_link 22 = .ok (.if_icmp .ne 38, 3) := dk_160 (by decide +kernel)
theorem dX12_link_25 : decode cX12_link 25 = .ok (.aload_n 0, 1) := dk_42 (by decide +kernel)
theorem dX12_link_26 : decode cX12_link 26 = .ok (.getfield 315, 3) := dk_180 (by decide +kernel)
theorem dX12_link_29 : decode cX12_link 29 = .ok (.iload 4, 2) := dk_21 (by decide +kernel)
theorem dX12_link_31 : decode cX12_link 31 = .ok (.iaload, 1) := dk_46 (by decide +kernel)
theorem dX12_link_32 : decode cX12_link 32 = .ok (.iload_n 2, 1) := dk_28 (by decide +kernel)
theorem dX12_link_33 : decode cX12_link 33 = .ok (.if_icmp .ne 27, 3) := dk_160 (by decide +kernel)
theorem dX12_link_36 : decode cX12_link 36 = .ok (.iload_n 3, 1) := dk_29 (by decide +kernel)
theorem dX12_link_37 : decode cX12_link 37 = .ok (.iconst (-1), 1) := dk_2 (by decide +kernel)
theorem dX12_link_38 : decode cX12_link 38 = .ok (.if_icmp .eq 14, 3) := dk_159 (by decide +kernel)
theorem dX12_link_41 : decode cX12_link 41 = .ok (.aload_n 0, 1) := dk_42 (by decide +kernel)
theorem dX12_link_42 : decode cX12_link 42 = .ok (.getfield 321, 3) := dk_180 (by decide +kernel)
theorem dX12_link_45 : decode cX12_link 45 = .ok (.iload 4, 2) := dk_21 (by decide +kernel)
theorem dX12_link_47 : decode cX12_link 47 = .ok (.iaload, 1) := dk_46 (by decide +kernel)
theorem dX12_link_48 : decode cX12_link 48 = .ok (.iload_n 3, 1) := dk_29 (by decide +kernel)
theorem dX12_link_49 : decode cX12_link 49 = .ok (.if_icmp .ge 11, 3) := dk_162 (by decide +kernel)
theorem dX12_link_52 : decode cX12_link 52 = .ok (.aload_n 0, 1) := dk_42 (by decide +kernel)
theorem dX12_link_53 : decode cX12_link 53 = .ok (.getfield 321, 3) := dk_180 (by decide +kernel)
theorem dX12_link_56 : decode cX12_link 56 = .ok (.iload 4, 2) := dk_21 (by decide +kernel)
theorem dX12_link_58 : decode cX12_link 58 = .ok (.iaload, 1) := dk_46 (by decide +kernel)
theorem dX12_link_59 : decode cX12_link 59 = .ok (.istore_n 3, 1) := dk_62 (by decide +kernel)
theorem dX12_link_60 : decode cX12_link 60 = .ok (.iinc 4 1, 3) := dk_132 (by decide +kernel)
theorem dX12_link_63 : decode cX12_link 63 = .ok (.goto (-58), 3) := dk_167 (by decide +kernel)
theorem dX12_link_66 : decode cX12_link 66 = .ok (.iload_n 3, 1) := dk_29 (by decide +kernel)
theorem dX12_link_67 : decode cX12_link 67 = .ok (.ireturn, 1) := dk_172 (by decide +kernel)
def wsRX12_link : List Cond := .code yX12_link cX12_link 5 (some .int) :: ([.fieldLink RX12 1069 "OptimaWorksModel" "arcs" "I", .fieldLink RX12 312 "OptimaWorksModel" "arcFrom" "[I", .fieldLink RX12 315 "OptimaWorksModel" "arcTo" "[I", .fieldLink RX12 321 "OptimaWorksModel" "arcCost" "[I"] ++ wsX120)
theorem iwsRX12_link_in12 : ∀ w ∈ wsX120, w ∈ wsRX12_link := fun _ h => List.mem_cons_of_mem _ (List.mem_append_right _ h)
theorem gdwsRX12_link : wsRX12_link.all goodWord = true := gdC rfl (gdA (by decide +kernel : ([.fieldLink RX12 1069 "OptimaWorksModel" "arcs" "I", .fieldLink RX12 312 "OptimaWorksModel" "arcFrom" "[I", .fieldLink RX12 315 "OptimaWorksModel" "arcTo" "[I", .fieldLink RX12 321 "OptimaWorksModel" "arcCost" "[I"] : List Cond).all goodWord = true) gdwsX120)
theorem hm_r_X12_link_0 : (.fieldLink RX12 321 "OptimaWorksModel" "arcCost" "[I" : Cond) ∈ wsRX12_link := by decide +kernel
set_option maxHeartbeats 4000000 in
set_option maxRecDepth 100000 in
/-- link(a, b) -/
theorem r_X12_link (l : Launch) (dC : Nat → ClassId) (dI : Nat → Nat → Nat) (a : Nat → Nat) (k : Nat → ClassId) (h0 : Nat) (vi : Nat → Int32) (vj : Nat → Int64) (vF : Nat → Nat → Int32) (vG : Nat → Nat → Int64) (aI : Int32) (bJ : Int32) (ar : Nat) (har : vi 150 = nI ar) (har40 : ar ≤ 40) (hAr : ArO (vF 95) (vF 96) (vF 97) (vF 98) ar) (ha0 : 0 ≤ (aI).toInt) (hb0 : 0 ≤ (bJ).toInt) (sz : Nat) : Met l yX12_link wsRX12_link ({ frames := 0, cells := 0, slots := 0, locals := 0 }) (va_Pc [.ref h0, .int aI, .int bJ] (fun U => U.heap.size = sz ∧ va_P (dC, dI) vwCl (WR a k h0 vi vj vF vG) U.heap ∧ va_K (dC, dI) vwCl (tX12 k) U ∧ va_D (fun _ => True) (WR a k h0 vi vj vF vG))) (va_Qi (fun (r : Int32) (u : Unit) => (tuE r (tuL (((ar : Nat) : Int), vF 95, vF 96, vF 97, vF 98) (aI).toInt.toNat (bJ).toInt.toNat ar))) (fun (u : Unit) t => va_P (dC, dI) vwCl (WR a k h0 vi vj vF vG) t.heap ∧ va_D (va_A (WR a k h0 vi vj vF vG) sz) (WR a k h0 vi vj vF vG)) (va_A (WR a k h0 vi vj vF vG) sz)) 0 0 (va_A (WR a k h0 vi vj vF vG) sz) := by
  refine Met.ofW (cc := cX12_link) (maxL := 5) (ret := (some .int)) (by decide) rfl ?_
  intro p e s m args below meth c s₁ B hml hv
  obtain ⟨rfl, hsz, hP, hK, hD0⟩ := hv
  have hx := B.exec
  have hb := B.bytes
  have hr := B.returns
  have hts := atoms_spec (ws := wsRX12_link) B.pre
  have hown : s.vm.findClass RX12 = some m.cls := findClass_of_methodNamed B.named
  have hlocks := B.notSynchronized
  subst hsz
  have hD := hD0.self (sz := s.heap.size)
  generalize hAe : va_A (WR a k h0 vi vj vF vG) s.heap.size = A at hD ⊢
  have hA : ∀ q : Nat, s.heap.size ≤ q → A q := fun q h => by rw [← hAe]; exact Or.inr h
  have hS : va_S A s.heap s.heap [] := va_S.rf
  have hl := lv_entry ([.ref h0, .int aI, .int bJ]) (n := 5) (Nat.le_of_ble_eq_true rfl)
  rw [lg_entry_eq]
  generalize (lg_sl ([.ref h0, .int aI, .int bJ]) ++ List.replicate (5 - (lg_sl ([.ref h0, .int aI, .int bJ])).length) Slot.unset).toArray = ls at hl ⊢
  have hl : lv_has ls 5 [(0, .ref h0), (1, .int aI), (2, .int bJ)] := hl
  refine lv_iconst (v := (-1)) hx hb dX12_link_0 (by decide) ?_
  refine lv_istore_n hx hb dX12_link_1 rfl hl (by decide) rfl (fun ls (hl : lv_has ls _ ([(3, .int (-1)), (0, .ref h0), (1, .int aI), (2, .int bJ)])) => ?_)
  refine lv_iconst (v := 0) hx hb dX12_link_2 (by decide) ?_
  refine lv_istore hx hb dX12_link_3 hl (by decide) rfl (fun ls (hl : lv_has ls _ ([(4, .int 0), (3, .int (-1)), (0, .ref h0), (1, .int aI), (2, .int bJ)])) => ?_)
  have hl : lv_has _ _ ([(0, .ref h0), (1, .int aI), (2, .int bJ), (3, .int (-1)), (4, .int (nI 0))]) := lv_sub hl [2, 3, 4, 1, 0] rfl
  refine (fun (loop : ∀ (n9 : Nat) (k5 : Nat) (cq : Int32) (H : Heap) (locs : List Loc) (ls : Array Slot), (k5 ≤ ar) → (tuE cq (tuL (((ar : Nat) : Int), vF 95, vF 96, vF 97, vF 98) (aI).toInt.toNat (bJ).toInt.toNat k5)) →  (ar < k5 + n9) → va_P (dC, dI) vwCl (WR a k h0 vi vj vF vG) H → va_D A (WR a k h0 vi vj vF vG) → va_S A s.heap H locs → lv_has ls 5 [(0, .ref h0), (1, .int aI), (2, .int bJ), (3, .int cq), (4, .int (nI k5))] → W p l e _ s m _ below meth c H locs 0 0 _ (F0 m 5 ls [])) => loop (ar + 1) 0 (-1) _ _ _ (by omega) (Or.inl ⟨by decide, rfl⟩) (by omega) hP hD hS hl) ?_
  intro n9
  induction n9 with
  | zero => intro k5 cq H locs ls hk5 hcq hf9; exact False.elim (by omega)
  | succ n9 ih5 =>
    intro k5 cq H locs ls hk5 hcq hf5 hP hD hS hl
    refine lv_iload hx hb dX12_link_5 (lv_at hl 4 rfl) ?_
    refine lv_aload_n hx hb dX12_link_7 rfl (lv_at hl 0 rfl) ?_
    refine va_get (D := (dC, dI)) (ci := 12) (v := .int (vi 150)) (C := RX12) (T := TX12) (N := 163) (fs := fM (vS a vi vj)) hx hb hts iwsRX12_link_in12 hown hK hP 0 rfl rfl 150 (by decide) (hts (.fieldLink RX12 1069 "OptimaWorksModel" "arcs" "I") (by decide +kernel)) (fun _ h9 => h9) rfl dX12_link_8 ?_
    refine lv_topi (fun y1 hy1 => ?_)
    obtain rfl : (nI ar) = y1 := (hy1.trans (har)).symm
    refine lv_icmp_ge (tgt := 66) hx hb dX12_link_11 (by decide) (fun c_11 => ?_) (fun c_11 => ?_)
    · have t_11 : ((k5 : Nat) : Int) ≥ ((ar : Nat) : Int) := toI_ge c_11 (nI_toInt (by omega)) (nI_toInt (by omega))
      refine lv_iload_n hx hb dX12_link_66 rfl (lv_at hl 3 rfl) ?_
      refine W.widen (k := 0) (n := 0) (by decide +kernel) (by decide +kernel) ?_
      exact W.iret (v := cq) hx hb hr (fun t9_ ht hW => ⟨⟨cq, (), rfl, by (try dsimp only); (have e9 : k5 = ar := (by omega)); rw [e9] at hcq; exact hcq, by rw [ht]; exact hP, hD⟩, hS.F ht⟩) hS.2.2 dX12_link_67
    · have t_11 : ¬ ((k5 : Nat) : Int) ≥ ((ar : Nat) : Int) := toI_nge c_11 (nI_toInt (by omega)) (nI_toInt (by omega))
      obtain ⟨x5, y5, hx5, hy5, hxy5, ex5, ey5, hr5, hc5⟩ := hAr k5 (by omega)
      have hf5 : 0 ≤ (vF 95 k5).toInt := by rw [ex5, nI_toInt (by omega)]; omega
      have ht5 : 0 ≤ (vF 96 k5).toInt := by rw [ey5, nI_toInt (by omega)]; omega
      refine lv_aload_n hx hb dX12_link_14 rfl (lv_at hl 0 rfl) ?_
      refine va_get (D := (dC, dI)) (ci := 12) (v := .ref (a 95)) (C := RX12) (T := TX12) (N := 163) (fs := fM (vS a vi vj)) hx hb hts iwsRX12_link_in12 hown hK hP 0 rfl rfl 151 (by decide) (hts (.fieldLink RX12 312 "OptimaWorksModel" "arcFrom" "[I") (by decide +kernel)) (fun _ h9 => h9) rfl dX12_link_15 ?_
      refine lv_iload hx hb dX12_link_18 (lv_at hl 4 rfl) ?_
      refine va_iald (cA := k 95) (n := 40) (f := (vF 95)) hx hb hK hP 96 95 (WR_get 95 (by decide)) (TR_get 95 (by decide)) (vp_in_nI (show k5 < 40 by omega) (by omega)) dX12_link_20 ?_
      refine lv_topi (fun y2 hy2 => ?_)
      obtain rfl : ((vF 95) k5) = y2 := (hy2.trans (by rw [nI_clamp (by omega)])).symm
      refine lv_iload_n hx hb dX12_link_21 rfl (lv_at hl 1 rfl) ?_
      refine lv_icmp_ne (tgt := 60) hx hb dX12_link_22 (by decide) (fun c_22 => ?_) (fun c_22 => ?_)
      · have t_22 : (((vF 95) k5)).toInt ≠ (aI).toInt := toI_ne c_22 rfl rfl
        refine lv_iinc (v := (nI (k5 + 1))) hx hb dX12_link_60 hl (k := 4) rfl (nI_add k5 1) (by decide) rfl (fun ls (hl : lv_has ls _ ([(4, .int (nI (k5 + 1))), (0, .ref h0), (1, .int aI), (2, .int bJ), (3, .int cq)])) => ?_)
        refine lv_goto (tgt := 5) hx hb dX12_link_63 (by decide) ?_
        have hl : lv_has _ _ ([(0, .ref h0), (1, .int aI), (2, .int bJ), (3, .int cq), (4, .int (nI (k5 + 1)))]) := lv_sub hl [1, 2, 3, 4, 0] rfl
        exact ih5 (k5 + 1) cq _ _ _ (by omega) (hcq.no1 ha0 hf5 t_22) (by omega) hP hD hS hl
      · have t_22 : (((vF 95) k5)).toInt = (aI).toInt := toI_nne c_22 rfl rfl
        refine lv_aload_n hx hb dX12_link_25 rfl (lv_at hl 0 rfl) ?_
        refine va_get (D := (dC, dI)) (ci := 12) (v := .ref (a 96)) (C := RX12) (T := TX12) (N := 163) (fs := fM (vS a vi vj)) hx hb hts iwsRX12_link_in12 hown hK hP 0 rfl rfl 152 (by decide) (hts (.fieldLink RX12 315 "OptimaWorksModel" "arcTo" "[I") (by decide +kernel)) (fun _ h9 => h9) rfl dX12_link_26 ?_
        refine lv_iload hx hb dX12_link_29 (lv_at hl 4 rfl) ?_
        refine va_iald (cA := k 96) (n := 40) (f := (vF 96)) hx hb hK hP 97 96 (WR_get 96 (by decide)) (TR_get 96 (by decide)) (vp_in_nI (show k5 < 40 by omega) (by omega)) dX12_link_31 ?_
        refine lv_topi (fun y3 hy3 => ?_)
        obtain rfl : ((vF 96) k5) = y3 := (hy3.trans (by rw [nI_clamp (by omega)])).symm
        refine lv_iload_n hx hb dX12_link_32 rfl (lv_at hl 2 rfl) ?_
        refine lv_icmp_ne (tgt := 60) hx hb dX12_link_33 (by decide) (fun c_33 => ?_) (fun c_33 => ?_)
        · have t_33 : (((vF 96) k5)).toInt ≠ (bJ).toInt := toI_ne c_33 rfl rfl
          refine lv_iinc (v := (nI (k5 + 1))) hx hb dX12_link_60 hl (k := 4) rfl (nI_add k5 1) (by decide) rfl (fun ls (hl : lv_has ls _ ([(4, .int (nI (k5 + 1))), (0, .ref h0), (1, .int aI), (2, .int bJ), (3, .int cq)])) => ?_)
          refine lv_goto (tgt := 5) hx hb dX12_link_63 (by decide) ?_
          have hl : lv_has _ _ ([(0, .ref h0), (1, .int aI), (2, .int bJ), (3, .int cq), (4, .int (nI (k5 + 1)))]) := lv_sub hl [1, 2, 3, 4, 0] rfl
          exact ih5 (k5 + 1) cq _ _ _ (by omega) (hcq.no2 hb0 ht5 t_33) (by omega) hP hD hS hl
        · have t_33 : (((vF 96) k5)).toInt = (bJ).toInt := toI_nne c_33 rfl rfl
          refine lv_iload_n hx hb dX12_link_36 rfl (lv_at hl 3 rfl) ?_
          refine lv_iconst (v := (-1)) hx hb dX12_link_37 (by decide) ?_
          refine lv_icmp_eq (tgt := 52) hx hb dX12_link_38 (by decide) (fun c_38 => ?_) (fun c_38 => ?_)
          · have t_38 : (cq).toInt = -1 := toI_eq c_38 rfl (by decide)
            refine lv_aload_n hx hb dX12_link_52 rfl (lv_at hl 0 rfl) ?_
            refine va_get (D := (dC, dI)) (ci := 12) (v := .ref (a 98)) (C := RX12) (T := TX12) (N := 163) (fs := fM (vS a vi vj)) hx hb hts iwsRX12_link_in12 hown hK hP 0 rfl rfl 154 (by decide) (hts _ hm_r_X12_link_0) (fun _ h9 => h9) rfl dX12_link_53 ?_
            refine lv_iload hx hb dX12_link_56 (lv_at hl 4 rfl) ?_
            refine va_iald (cA := k 98) (n := 40) (f := (vF 98)) hx hb hK hP 99 98 (WR_get 98 (by decide)) (TR_get 98 (by decide)) (vp_in_nI (show k5 < 40 by omega) (by omega)) dX12_link_58 ?_
            refine lv_topi (fun y4 hy4 => ?_)
            obtain rfl : ((vF 98) k5) = y4 := (hy4.trans (by rw [nI_clamp (by omega)])).symm
            refine lv_istore_n hx hb dX12_link_59 rfl hl (by decide) rfl (fun ls (hl : lv_has ls _ ([(3, .int ((vF 98) k5)), (0, .ref h0), (1, .int aI), (2, .int bJ), (4, .int (nI k5))])) => ?_)
            refine lv_iinc (v := (nI (k5 + 1))) hx hb dX12_link_60 hl (k := 4) rfl (nI_add k5 1) (by decide) rfl (fun ls (hl : lv_has ls _ ([(4, .int (nI (k5 + 1))), (3, .int ((vF 98) k5)), (0, .ref h0), (1, .int aI), (2, .int bJ)])) => ?_)
            refine lv_goto (tgt := 5) hx hb dX12_link_63 (by decide) ?_
            have hl : lv_has _ _ ([(0, .ref h0), (1, .int aI), (2, .int bJ), (3, .int ((vF 98) k5)), (4, .int (nI (k5 + 1)))]) := lv_sub hl [2, 3, 4, 1, 0] rfl
            exact ih5 (k5 + 1) ((vF 98) k5) _ _ _ (by omega) (hcq.take t_22 t_33 hc5 (Or.inl t_38)) (by omega) hP hD hS hl
          · have t_38 : ¬ (cq).toInt = -1 := toI_neq c_38 rfl (by decide)
            refine lv_aload_n hx hb dX12_link_41 rfl (lv_at hl 0 rfl) ?_
            refine va_get (D := (dC, dI)) (ci := 12) (v := .ref (a 98)) (C := RX12) (T := TX12) (N := 163) (fs := fM (vS a vi vj)) hx hb hts iwsRX12_link_in12 hown hK hP 0 rfl rfl 154 (by decide) (hts _ hm_r_X12_link_0) (fun _ h9 => h9) rfl dX12_link_42 ?_
            refine lv_iload hx hb dX12_link_45 (lv_at hl 4 rfl) ?_
            refine va_iald (cA := k 98) (n := 40) (f := (vF 98)) hx hb hK hP 99 98 (WR_get 98 (by decide)) (TR_get 98 (by decide)) (vp_in_nI (show k5 < 40 by omega) (by omega)) dX12_link_47 ?_
            refine lv_topi (fun y5 hy5 => ?_)
            obtain rfl : ((vF 98) k5) = y5 := (hy5.trans (by rw [nI_clamp (by omega)])).symm
            refine lv_iload_n hx hb dX12_link_48 rfl (lv_at hl 3 rfl) ?_
            refine lv_icmp_ge (tgt := 60) hx hb dX12_link_49 (by decide) (fun c_49 => ?_) (fun c_49 => ?_)
            · have t_49 : (((vF 98) k5)).toInt ≥ (cq).toInt := toI_ge c_49 rfl rfl
              refine lv_iinc (v := (nI (k5 + 1))) hx hb dX12_link_60 hl (k := 4) rfl (nI_add k5 1) (by decide) rfl (fun ls (hl : lv_has ls _ ([(4, .int (nI (k5 + 1))), (0, .ref h0), (1, .int aI), (2, .int bJ), (3, .int cq)])) => ?_)
              refine lv_goto (tgt := 5) hx hb dX12_link_63 (by decide) ?_
              have hl : lv_has _ _ ([(0, .ref h0), (1, .int aI), (2, .int bJ), (3, .int cq), (4, .int (nI (k5 + 1)))]) := lv_sub hl [1, 2, 3, 4, 0] rfl
              exact ih5 (k5 + 1) cq _ _ _ (by omega) (hcq.keep t_22 t_33 t_38 t_49) (by omega) hP hD hS hl
            · have t_49 : ¬ (((vF 98) k5)).toInt ≥ (cq).toInt := toI_nge c_49 rfl rfl
              refine lv_aload_n hx hb dX12_link_52 rfl (lv_at hl 0 rfl) ?_
              refine va_get (D := (dC, dI)) (ci := 12) (v := .ref (a 98)) (C := RX12) (T := TX12) (N := 163) (fs := fM (vS a vi vj)) hx hb hts iwsRX12_link_in12 hown hK hP 0 rfl rfl 154 (by decide) (hts _ hm_r_X12_link_0) (fun _ h9 => h9) rfl dX12_link_53 ?_
              refine lv_iload hx hb dX12_link_56 (lv_at hl 4 rfl) ?_
              refine va_iald (cA := k 98) (n := 40) (f := (vF 98)) hx hb hK hP 99 98 (WR_get 98 (by decide)) (TR_get 98 (by decide)) (vp_in_nI (show k5 < 40 by omega) (by omega)) dX12_link_58 ?_
              refine lv_topi (fun y6 hy6 => ?_)
              obtain rfl : ((vF 98) k5) = y6 := (hy6.trans (by rw [nI_clamp (by omega)])).symm
              refine lv_istore_n hx hb dX12_link_59 rfl hl (by decide) rfl (fun ls (hl : lv_has ls _ ([(3, .int ((vF 98) k5)), (0, .ref h0), (1, .int aI), (2, .int bJ), (4, .int (nI k5))])) => ?_)
              refine lv_iinc (v := (nI (k5 + 1))) hx hb dX12_link_60 hl (k := 4) rfl (nI_add k5 1) (by decide) rfl (fun ls (hl : lv_has ls _ ([(4, .int (nI (k5 + 1))), (3, .int ((vF 98) k5)), (0, .ref h0), (1, .int aI), (2, .int bJ)])) => ?_)
              refine lv_goto (tgt := 5) hx hb dX12_link_63 (by decide) ?_
              have hl : lv_has _ _ ([(0, .ref h0), (1, .int aI), (2, .int bJ), (3, .int ((vF 98) k5)), (4, .int (nI (k5 + 1)))]) := lv_sub hl [2, 3, 4, 1, 0] rfl
              exact ih5 (k5 + 1) ((vF 98) k5) _ _ _ (by omega) (hcq.take t_22 t_33 hc5 (Or.inr t_49)) (by omega) hP hD hS hl
theorem dX12_tree_0 : decode cX12_tree 0 = .ok (.aload_n 0, 1) := dk_42 (by decide +kernel)
theorem dX12_tree_1 : decode cX12_tree 1 = .ok (.iconst 0, 1) := dk_3 (by decide +kernel)
theorem dX12_tree_2 : decode cX12_tree 2 = .ok (.putfield 348, 3) := dk_181 (by decide +kernel)
theorem dX12_tree_5 : decode cX12_tree 5 = .ok (.iconst 0, 1) := dk_3 (by decide +kernel)
theorem dX12_tree_6 : decode cX12_tree 6 = .ok (.istore_n 1, 1) := dk_60 (by decide +kernel)
theorem dX12_tree_7 : decode cX12_tree 7 = .ok (.iload_n 1, 1) := dk_27 (by decide +kernel)
theorem dX12_tree_8 : decode cX12_tree 8 = .ok (.bipush 12, 2) := dk_16 (by decide +kernel)
theorem dX12_tree_10 : decode cX12_tree 10 = .ok (.if_icmp .ge 16, 3) := dk_162 (by decide +kernel)
theorem dX12_tree_13 : decode cX12_tree 13 = .ok (.aload_n 0, 1) := dk_42 (by decide +kernel)
theorem dX12_tree_14 : decode cX12_tree 14 = .ok (.getfield 336, 3) := dk_180 (by decide +kernel)
theorem dX12_tree_17 : decode cX12_tree 17 = .ok (.iload_n 1, 1) := dk_27 (by decide +kernel)
theorem dX12_tree_18 : decode cX12_tree 18 = .ok (.iload_n 1, 1) := dk_27 (by decide +kernel)
theorem dX12_tree_19 : decode cX12_tree 19 = .ok (.iastore, 1) := dk_79 (by decide +kernel)
theorem dX12_tree_20 : decode cX12_tree 20 = .ok (.iinc 1 1, 3) := dk_132 (by decide +kernel)
theorem dX12_tree_23 : decode cX12_tree 23 = .ok (.goto (-16), 3) := dk_167 (by decide +kernel)
theorem dX12_tree_26 : decode cX12_tree 26 = .ok (.lconst 0, 1) := dk_9 (by decide +kernel)
theorem dX12_tree_27 : decode cX12_tree 27 = .ok (.lstore_n 1, 1) := dk_64 (by decide +kernel)
theorem dX12_tree_28 : decode cX12_tree 28 = .ok (.iconst 0, 1) := dk_3 (by decide +kernel)
theorem dX12_tree_29 : decode cX12_tree 29 = .ok (.istore_n 3, 1) := dk_62 (by decide +kernel)
theorem dX12_tree_30 : decode cX12_tree 30 = .ok (.iload_n 3, 1) := dk_29 (by decide +kernel)
theorem dX12_tree_31 : decode cX12_tree 31 = .ok (.sipush 1000, 3) := dk_17 (by decide +kernel)
theorem dX12_tree_34 : decode cX12_tree 34 = .ok (.if_icmp .gt 130, 3) := dk_163 (by decide +kernel)
theorem dX12_tree_37 : decode cX12_tree 37 = .ok (.iconst 0, 1) := dk_3 (by decide +kernel)
theorem dX12_tree_38 : decode cX12_tree 38 = .ok (.istore 4, 2) := dk_54 (by decide +kernel)
theorem dX12_tree_40 : decode cX12_tree 40 = .ok (.iload 4, 2) := dk_21 (by decide +kernel)
theorem dX12_tree_42 : decode cX12_tree 42 = .ok (.aload_n 0, 1) := dk_42 (by decide +kernel)
theorem dX12_tree_43 : decode cX12_tree 43 = .ok (.getfield 1069, 3) := dk_180 (by decide +kernel)
theorem dX12_tree_46 : decode cX12_tree 46 = .ok (.if_icmp .ge 112, 3) := dk_162 (by decide +kernel)
theorem dX12_tree_49 : decode cX12_tree 49 = .ok (.aload_n 0, 1) := dk_42 (by decide +kernel)
theorem dX12_tree_50 : decode cX12_tree 50 = .ok (.getfield 336, 3) := dk_180 (by decide +kernel)
theorem dX12_tree_53 : decode cX12_tree 53 = .ok (.aload_n 0, 1) := dk_42 (by decide +kernel)
theorem dX12_tree_54 : decode cX12_tree 54 = .ok (.getfield 312, 3) := dk_180 (by decide +kernel)
theorem dX12_tree_57 : decode cX12_tree 57 = .ok (.iload 4, 2) := dk_21 (by decide +kernel)
theorem dX12_tree_59 : decode cX12_tree 59 = .ok (.iaload, 1) := dk_46 (by decide +kernel)
theorem dX12_tree_60 : decode cX12_tree 60 = .ok (.iaload, 1) := dk_46 (by decide +kernel)
theorem dX12_tree_61 : decode cX12_tree 61 = .ok (.istore 5, 2) := dk_54 (by decide +kernel)
theorem dX12_tree_63 : decode cX12_tree 63 = .ok (.aload_n 0, 1) := dk_42 (by decide +kernel)
theorem dX12_tree_64 : decode cX12_tree 64 = .ok (.getfield 336, 3) := dk_180 (by decide +kernel)
theorem dX12_tree_67 : decode cX12_tree 67 = .ok (.aload_n 0, 1) := dk_42 (by decide +kernel)
theorem dX12_tree_68 : decode cX12_tree 68 = .ok (.getfield 315, 3) := dk_180 (by decide +kernel)
theorem dX12_tree_71 : decode cX12_tree 71 = .ok (.iload 4, 2) := dk_21 (by decide +kernel)
theorem dX12_tree_73 : decode cX12_tree 73 = .ok (.iaload, 1) := dk_46 (by decide +kernel)
theorem dX12_tree_74 : decode cX12_tree 74 = .ok (.iaload, 1) := dk_46 (by decide +kernel)
theorem dX12_tree_75 : decode cX12_tree 75 = .ok (.istore 6, 2) := dk_54 (by decide +kernel)
theorem dX12_tree_77 : decode cX12_tree 77 = .ok (.aload_n 0, 1) := dk_42 (by decide +kernel)
theorem dX12_tree_78 : decode cX12_tree 78 = .ok (.getfield 321, 3) := dk_180 (by decide +kernel)
theorem dX12_tree_81 : decode cX12_tree 81 = .ok (.iload 4, 2) := dk_21 (by decide +kernel)
theorem dX12_tree_83 : decode cX12_tree 83 = .ok (.iaload, 1) := dk_46 (by decide +kernel)
theorem dX12_tree_84 : decode cX12_tree 84 = .ok (.iload_n 3, 1) := dk_29 (by decide +kernel)
theorem dX12_tree_85 : decode cX12_tree 85 = .ok (.if_icmp .ne 67, 3) := dk_160 (by decide +kernel)
theorem dX12_tree_88 : decode cX12_tree 88 = .ok (.iload 5, 2) := dk_21 (by decide +kernel)
theorem dX12_tree_90 : decode cX12_tree 90 = .ok (.iload 6, 2) := dk_21 (by decide +kernel)
theorem dX12_tree_92 : decode cX12_tree 92 = .ok (.if_icmp .ne 6, 3) := dk_160 (by decide +kernel)
theorem dX12_tree_95 : decode cX12_tree 95 = .ok (.goto 57, 3) := dk_167 (by decide +kernel)
theorem dX12_tree_98 : decode cX12_tree 98 = .ok (.lload_n 1, 1) := dk_31 (by decide +kernel)
theorem dX12_tree_99 : decode cX12_tree 99 = .ok (.lconst 1, 1) := dk_10 (by decide +kernel)
theorem dX12_tree_100 : decode cX12_tree 100 = .ok (.iload 4, 2) := dk_21 (by decide +kernel)
theorem dX12_tree_102 : decode cX12_tree 102 = .ok (.lshl, 1) := dk_121 (by decide +kernel)
theorem dX12_tree_103 : decode cX12_tree 103 = .ok (.lor, 1) := dk_129 (by decide +kernel)
theorem dX12_tree_104 : decode cX12_tree 104 = .ok (.lstore_n 1, 1) := dk_64 (by decide +kernel)
theorem dX12_tree_105 : decode cX12_tree 105 = .ok (.iconst 0, 1) := dk_3 (by decide +kernel)
theorem dX12_tree_106 : decode cX12_tree 106 = .ok (.istore 7, 2) := dk_54 (by decide +kernel)
theorem dX12_tree_108 : decode cX12_tree 108 = .ok (.iload 7, 2) := dk_21 (by decide +kernel)
theorem dX12_tree_110 : decode cX12_tree 110 = .ok (.bipush 12, 2) := dk_16 (by decide +kernel)
theorem dX12_tree_112 : decode cX12_tree 112 = .ok (.if_icmp .ge 40, 3) := dk_162 (by decide +kernel)
theorem dX12_tree_115 : decode cX12_tree 115 = .ok (.aload_n 0, 1) := dk_42 (by decide +kernel)
theorem dX12_tree_116 : decode cX12_tree 116 = .ok (.getfield 336, 3) := dk_180 (by decide +kernel)
theorem dX12_tree_119 : decode cX12_tree 119 = .ok (.iload 7, 2) := dk_21 (by decide +kernel)
theorem dX12_tree_121 : decode cX12_tree 121 = .ok (.aload_n 0, 1) := dk_42 (by decide +kernel)
theorem dX12_tree_122 : decode cX12_tree 122 = .ok (.getfield 336, 3) := dk_180 (by decide +kernel)
theorem dX12_tree_125 : decode cX12_tree 125 = .ok (.iload 7, 2) := dk_21 (by decide +kernel)
theorem dX12_tree_127 : decode cX12_tree 127 = .ok (.iaload, 1) := dk_46 (by decide +kernel)
theorem dX12_tree_128 : decode cX12_tree 128 = .ok (.iload 6, 2) := dk_21 (by decide +kernel)
theorem dX12_tree_130 : decode cX12_tree 130 = .ok (.if_icmp .ne 8, 3) := dk_160 (by decide +kernel)
theorem dX12_tree_133 : decode cX12_tree 133 = .ok (.iload 5, 2) := dk_21 (by decide +kernel)
theorem dX12_tree_135 : decode cX12_tree 135 = .ok (.goto 10, 3) := dk_167 (by decide +kernel)
theorem dX12_tree_138 : decode cX12_tree 138 = .ok (.aload_n 0, 1) := dk_42 (by decide +kernel)
theorem dX12_tree_139 : decode cX12_tree 139 = .ok (.getfield 336, 3) := dk_180 (by decide +kernel)
theorem dX12_tree_142 : decode cX12_tree 142 = .ok (.iload 7, 2) := dk_21 (by decide +kernel)
theorem dX12_tree_144 : decode cX12_tree 144 = .ok (.iaload, 1) := dk_46 (by decide +kernel)
theorem dX12_tree_145 : decode cX12_tree 145 = .ok (.iastore, 1) := dk_79 (by decide +kernel)
theorem dX12_tree_146 : decode cX12_tree 146 = .ok (.iinc 7 1, 3) := dk_132 (by decide +kernel)
theorem dX12_tree_149 : decode cX12_tree 149 = .ok (.goto (-41), 3) := dk_167 (by decide +kernel)
theorem dX12_tree_152 : decode cX12_tree 152 = .ok (.iinc 4 1, 3) := dk_132 (by decide +kernel)
theorem dX12_tree_155 : decode cX12_tree 155 = .ok (.goto (-115), 3) := dk_167 (by decide +kernel)
theorem dX12_tree_158 : decode cX12_tree 158 = .ok (.iinc 3 1, 3) := dk_132 (by decide +kernel)
theorem dX12_tree_161 : decode cX12_tree 161 = .ok (.goto (-131), 3) := dk_167 (by decide +kernel)
theorem dX12_tree_164 : decode cX12_tree 164 = .ok (.lload_n 1, 1) := dk_31 (by decide +kernel)
theorem dX12_tree_165 : decode cX12_tree 165 = .ok (.lreturn, 1) := dk_173 (by decide +kernel)
def wsRX12_tree : List Cond := .code yX12_tree cX12_tree 8 (some .long) :: ([.fieldLink RX12 348 "OptimaWorksModel" "thrown" "I", .fieldLink RX12 1069 "OptimaWorksModel" "arcs" "I", .fieldLink RX12 336 "OptimaWorksModel" "joined" "[I", .fieldLink RX12 312 "OptimaWorksModel" "arcFrom" "[I", .fieldLink RX12 315 "OptimaWorksModel" "arcTo" "[I", .fieldLink RX12 321 "OptimaWorksModel" "arcCost" "[I"] ++ wsX120)
theorem iwsRX12_tree_in12 : ∀ w ∈ wsX120, w ∈ wsRX12_tree := fun _ h => List.mem_cons_of_mem _ (List.mem_append_right _ h)
theorem gdwsRX12_tree : wsRX12_tree.all goodWord = true := gdC rfl (gdA (by decide +kernel : ([.fieldLink RX12 348 "OptimaWorksModel" "thrown" "I", .fieldLink RX12 1069 "OptimaWorksModel" "arcs" "I", .fieldLink RX12 336 "OptimaWorksModel" "joined" "[I", .fieldLink RX12 312 "OptimaWorksModel" "arcFrom" "[I", .fieldLink RX12 315 "OptimaWorksModel" "arcTo" "[I", .fieldLink RX12 321 "OptimaWorksModel" "arcCost" "[I"] : List Cond).all goodWord = true) gdwsX120)
theorem hm_r_X12_tree_0 : (.fieldLink RX12 336 "OptimaWorksModel" "joined" "[I" : Cond) ∈ wsRX12_tree := by decide +kernel
set_option maxHeartbeats 4000000 in
set_option maxRecDepth 100000 in
/-- tree() -/
theorem r_X12_tree (l : Launch) (dC : Nat → ClassId) (dI : Nat → Nat → Nat) (a : Nat → Nat) (k : Nat → ClassId) (h0 : Nat) (vi : Nat → Int32) (vj : Nat → Int64) (vF : Nat → Nat → Int32) (vG : Nat → Nat → Int64) (ar : Nat) (har : vi 150 = nI ar) (har40 : ar ≤ 40) (hAr : ArO (vF 95) (vF 96) (vF 97) (vF 98) ar) (sz : Nat) : Met l yX12_tree wsRX12_tree ({ frames := 0, cells := 0, slots := 0, locals := 0 }) (va_Pc [.ref h0] (fun U => U.heap.size = sz ∧ va_P (dC, dI) vwCl (WR a k h0 vi vj vF vG) U.heap ∧ va_K (dC, dI) vwCl (tX12 k) U ∧ va_D (fun _ => True) (WR a k h0 vi vj vF vG))) (va_Ql (fun (r : Int64) (u : Nat → Int32) => (tAll (((ar : Nat) : Int), vF 95, vF 96, vF 97, vF 98) r)) (fun (u : Nat → Int32) t => va_P (dC, dI) vwCl (WR a k h0 (fT vi 0 0) vj (fT vF 103 u) vG) t.heap ∧ va_D (va_A (WR a k h0 vi vj vF vG) sz) (WR a k h0 (fT vi 0 0) vj (fT vF 103 u) vG)) (va_A (WR a k h0 vi vj vF vG) sz)) 0 0 (va_A (WR a k h0 vi vj vF vG) sz) := by
  refine Met.ofW (cc := cX12_tree) (maxL := 8) (ret := (some .long)) (by decide) rfl ?_
  intro p e s m args below meth c s₁ B hml hv
  obtain ⟨rfl, hsz, hP, hK, hD0⟩ := hv
  have hx := B.exec
  have hb := B.bytes
  have hr := B.returns
  have hts := atoms_spec (ws := wsRX12_tree) B.pre
  have hown : s.vm.findClass RX12 = some m.cls := findClass_of_methodNamed B.named
  have hlocks := B.notSynchronized
  subst hsz
  have hD := hD0.self (sz := s.heap.size)
  generalize hAe : va_A (WR a k h0 vi vj vF vG) s.heap.size = A at hD ⊢
  have hA : ∀ q : Nat, s.heap.size ≤ q → A q := fun q h => by rw [← hAe]; exact Or.inr h
  have hS : va_S A s.heap s.heap [] := va_S.rf
  have hl := lv_entry ([.ref h0]) (n := 8) (Nat.le_of_ble_eq_true rfl)
  rw [lg_entry_eq]
  generalize (lg_sl ([.ref h0]) ++ List.replicate (8 - (lg_sl ([.ref h0])).length) Slot.unset).toArray = ls at hl ⊢
  have hl : lv_has ls 8 [(0, .ref h0)] := hl
  refine lv_aload_n hx hb dX12_tree_0 rfl (lv_at hl 0 rfl) ?_
  refine lv_iconst (v := 0) hx hb dX12_tree_1 (by decide) ?_
  refine va_put (D := (dC, dI)) (ci := 12) (v := .int 0) (ty := .int) (C := RX12) (T := TX12) (N := 163) (fs := fM (vS a vi vj)) hx hb hts iwsRX12_tree_in12 tyX12 tyX12_ok nmX12 hown hK hP hD hS 0 rfl rfl 0 (by decide) (hts (.fieldLink RX12 348 "OptimaWorksModel" "thrown" "I") (by decide +kernel)) (fun _ h9 => h9) rfl (by decide +kernel) rfl rfl (Nat.le_of_ble_eq_true rfl) dX12_tree_2 (fun H locs hP hD hS => ?_)
  have hP : va_P (dC, dI) vwCl (WR a k h0 (fT vi 0 0) vj vF vG) H := fz_w (WR_i 0 _ rfl) hP
  have hD : va_D A (WR a k h0 (fT vi 0 0) vj vF vG) := fz_wD (WR_i 0 _ rfl) hD
  refine lv_iconst (v := 0) hx hb dX12_tree_5 (by decide) ?_
  refine lv_istore_n hx hb dX12_tree_6 rfl hl (by decide) rfl (fun ls (hl : lv_has ls _ ([(1, .int 0), (0, .ref h0)])) => ?_)
  have e9 : fT vF 103 (vF 103) = vF := by funext q9; by_cases h9_103 : q9 = 103; (subst h9_103; exact (fT_eq _ _ _).trans (Eq.trans (by first | with_reducible rfl | with_reducible assumption | (symm; with_reducible assumption) | rfl | assumption | (symm; assumption) | (subst_vars; rfl)) (Eq.refl _).symm)); exact (fT_ne _ _ h9_103).trans (Eq.refl _).symm
  have hP := wr_PF e9 hP
  have hD := wr_DF e9 hD
  clear e9
  have hl : lv_has _ _ ([(0, .ref h0), (1, .int (nI 0))]) := lv_sub hl [1, 0] rfl
  refine (fun (loop : ∀ (n9 : Nat) (n1 : Nat) (j1 : Nat → Int32) (H : Heap) (locs : List Loc) (ls : Array Slot), (n1 ≤ 12) → (∀ n, n < n1 → ∃ x, x < 12 ∧ j1 n = nI x) → (∀ n, n < n1 → (j1 n).toInt = ((n : Nat) : Int)) →  (12 < n1 + n9) → va_P (dC, dI) vwCl (WR a k h0 (fT vi 0 0) vj (fT vF 103 j1) vG) H → va_D A (WR a k h0 (fT vi 0 0) vj (fT vF 103 j1) vG) → va_S A s.heap H locs → lv_has ls 8 [(0, .ref h0), (1, .int (nI n1))] → W p l e _ s m _ below meth c H locs 0 0 _ (F0 m 7 ls [])) => loop (13) 0 (vF 103) _ _ _ (by omega) (fun n hn => absurd hn (by omega)) (fun n hn => absurd hn (by omega)) (by omega) hP hD hS hl) ?_
  intro n9
  induction n9 with
  | zero => intro n1 j1 H locs ls hn1 hj1 hjx hf9; exact False.elim (by omega)
  | succ n9 ih7 =>
    intro n1 j1 H locs ls hn1 hj1 hjx hf7 hP hD hS hl
    refine lv_iload_n hx hb dX12_tree_7 rfl (lv_at hl 1 rfl) ?_
    refine lv_bipush (v := 12) hx hb dX12_tree_8 (by decide) ?_
    refine lv_icmp_ge (tgt := 26) hx hb dX12_tree_10 (by decide) (fun c_10 => ?_) (fun c_10 => ?_)
    · have t_10 : ((n1 : Nat) : Int) ≥ 12 := toI_ge c_10 (nI_toInt (by omega)) (by decide)
      refine lv_lconst (v := 0) hx hb dX12_tree_26 (by decide) ?_
      refine lv_lstore_n hx hb dX12_tree_27 rfl hl (by decide) rfl (fun ls (hl : lv_has ls _ ([(1, .long 0), (0, .ref h0)])) => ?_)
      refine lv_iconst (v := 0) hx hb dX12_tree_28 (by decide) ?_
      refine lv_istore_n hx hb dX12_tree_29 rfl hl (by decide) rfl (fun ls (hl : lv_has ls _ ([(3, .int 0), (1, .long 0), (0, .ref h0)])) => ?_)
      have hl : lv_has _ _ ([(0, .ref h0), (1, .long 0), (3, .int (nI 0))]) := lv_sub hl [2, 1, 0] rfl
      refine (fun (loop : ∀ (n9 : Nat) (c5 : Nat) (bt : Int64) (j0 : Nat → Int32) (H : Heap) (locs : List Loc) (ls : Array Slot), (c5 ≤ 1001) → (∀ n, n < 12 → ∃ x, x < 12 ∧ j0 n = nI x) → (tRef (((ar : Nat) : Int), vF 95, vF 96, vF 97, vF 98) ((c5 : Nat) : Int) 0 bt j0) →  (1001 < c5 + n9) → va_P (dC, dI) vwCl (WR a k h0 (fT vi 0 0) vj (fT vF 103 j0) vG) H → va_D A (WR a k h0 (fT vi 0 0) vj (fT vF 103 j0) vG) → va_S A s.heap H locs → lv_has ls 8 [(0, .ref h0), (1, .long bt), (3, .int (nI c5))] → W p l e _ s m _ below meth c H locs 0 0 _ (F0 m 30 ls [])) => loop (1002) 0 0 j1 _ _ _ (by omega) (fun n hn => hj1 n (by omega)) (tRef.start (ArO.val hAr) (fun n hn => hjx n (by omega))) (by omega) hP hD hS hl) ?_
      intro n9
      induction n9 with
      | zero => intro c5 bt j0 H locs ls hc5 hj0 hTr hf9; exact False.elim (by omega)
      | succ n9 ih30_1 =>
        intro c5 bt j0 H locs ls hc5 hj0 hTr hf30_1 hP hD hS hl
        refine lv_iload_n hx hb dX12_tree_30 rfl (lv_at hl 2 rfl) ?_
        refine lv_sipush (v := 1000) hx hb dX12_tree_31 (by decide) ?_
        refine lv_icmp_gt (tgt := 164) hx hb dX12_tree_34 (by decide) (fun c_34 => ?_) (fun c_34 => ?_)
        · have t_34 : ((c5 : Nat) : Int) > 1000 := toI_gt c_34 (nI_toInt (by omega)) (by decide)
          refine lv_lload_n hx hb dX12_tree_164 rfl (lv_at hl 1 rfl) ?_
          refine W.widen (k := 0) (n := 0) (by decide +kernel) (by decide +kernel) ?_
          exact W.lret (v := bt) hx hb hr (fun t9_ ht hW => ⟨⟨bt, j0, rfl, by (try dsimp only); exact tRef.done (by rw [show (1001 : Int) = ((c5 : Nat) : Int) from by omega]; exact hTr) (ArO.val hAr), by rw [ht]; exact hP, hD⟩, hS.F ht⟩) hS.2.2 dX12_tree_165
        · have t_34 : ¬ ((c5 : Nat) : Int) > 1000 := toI_ngt c_34 (nI_toInt (by omega)) (by decide)
          refine lv_iconst (v := 0) hx hb dX12_tree_37 (by decide) ?_
          refine lv_istore hx hb dX12_tree_38 hl (by decide) rfl (fun ls (hl : lv_has ls _ ([(4, .int 0), (0, .ref h0), (1, .long bt), (3, .int (nI c5))])) => ?_)
          have hl : lv_has _ _ ([(0, .ref h0), (1, .long bt), (3, .int (nI c5)), (4, .int (nI 0))]) := lv_sub hl [1, 2, 3, 0] rfl
          refine (fun (loop : ∀ (n9 : Nat) (a5 : Nat) (bt : Int64) (j2 : Nat → Int32) (H : Heap) (locs : List Loc) (ls : Array Slot), (a5 ≤ ar) → (∀ n, n < 12 → ∃ x, x < 12 ∧ j2 n = nI x) → (tRef (((ar : Nat) : Int), vF 95, vF 96, vF 97, vF 98) ((c5 : Nat) : Int) a5 bt j2) →  (ar < a5 + n9) → va_P (dC, dI) vwCl (WR a k h0 (fT vi 0 0) vj (fT vF 103 j2) vG) H → va_D A (WR a k h0 (fT vi 0 0) vj (fT vF 103 j2) vG) → va_S A s.heap H locs → lv_has ls 8 [(0, .ref h0), (1, .long bt), (3, .int (nI c5)), (4, .int (nI a5))] → W p l e _ s m _ below meth c H locs 0 0 _ (F0 m 40 ls [])) => loop (ar + 1) 0 bt j0 _ _ _ (by omega) (hj0) (hTr) (by omega) hP hD hS hl) ?_
          intro n9
          induction n9 with
          | zero => intro a5 bt j2 H locs ls ha5 hj2 hT2 hf9; exact False.elim (by omega)
          | succ n9 ih40_2 =>
            intro a5 bt j2 H locs ls ha5 hj2 hT2 hf40_2 hP hD hS hl
            refine lv_iload hx hb dX12_tree_40 (lv_at hl 3 rfl) ?_
            refine lv_aload_n hx hb dX12_tree_42 rfl (lv_at hl 0 rfl) ?_
            refine va_get (D := (dC, dI)) (ci := 12) (v := .int (vi 150)) (C := RX12) (T := TX12) (N := 163) (fs := fM (vS a (fT vi 0 0) vj)) hx hb hts iwsRX12_tree_in12 hown hK hP 0 rfl rfl 150 (by decide) (hts (.fieldLink RX12 1069 "OptimaWorksModel" "arcs" "I") (by decide +kernel)) (fun _ h9 => h9) rfl dX12_tree_43 ?_
            refine lv_topi (fun y1 hy1 => ?_)
            obtain rfl : (nI ar) = y1 := (hy1.trans (har)).symm
            refine lv_icmp_ge (tgt := 158) hx hb dX12_tree_46 (by decide) (fun c_46 => ?_) (fun c_46 => ?_)
            · have t_46 : ((a5 : Nat) : Int) ≥ ((ar : Nat) : Int) := toI_ge c_46 (nI_toInt (by omega)) (nI_toInt (by omega))
              refine lv_iinc (v := (nI (c5 + 1))) hx hb dX12_tree_158 hl (k := 2) rfl (nI_add c5 1) (by decide) rfl (fun ls (hl : lv_has ls _ ([(3, .int (nI (c5 + 1))), (0, .ref h0), (1, .long bt), (4, .int (nI a5))])) => ?_)
              refine lv_goto (tgt := 30) hx hb dX12_tree_161 (by decide) ?_
              have hl : lv_has _ _ ([(0, .ref h0), (1, .long bt), (3, .int (nI (c5 + 1)))]) := lv_sub hl [1, 2, 0] rfl
              exact ih30_1 (c5 + 1) bt j2 _ _ _ (by omega) (hj2) (by rw [show ((c5 + 1 : Nat) : Int) = ((c5 : Nat) : Int) + 1 from by omega]; exact hT2.next (by dsimp only; omega)) (by omega) hP hD hS hl
            · have t_46 : ¬ ((a5 : Nat) : Int) ≥ ((ar : Nat) : Int) := toI_nge c_46 (nI_toInt (by omega)) (nI_toInt (by omega))
              obtain ⟨x5, y5, hx5, hy5, hxy5, ex5, ey5, _⟩ := hAr a5 (by omega)
              obtain ⟨u5, hu5, eu5⟩ := hj2 x5 hx5
              obtain ⟨w5, hw5, ew5⟩ := hj2 y5 hy5
              refine lv_aload_n hx hb dX12_tree_49 rfl (lv_at hl 0 rfl) ?_
              refine va_get (D := (dC, dI)) (ci := 12) (v := .ref (a 103)) (C := RX12) (T := TX12) (N := 163) (fs := fM (vS a (fT vi 0 0) vj)) hx hb hts iwsRX12_tree_in12 hown hK hP 0 rfl rfl 159 (by decide) (hts _ hm_r_X12_tree_0) (fun _ h9 => h9) rfl dX12_tree_50 ?_
              refine lv_aload_n hx hb dX12_tree_53 rfl (lv_at hl 0 rfl) ?_
              refine va_get (D := (dC, dI)) (ci := 12) (v := .ref (a 95)) (C := RX12) (T := TX12) (N := 163) (fs := fM (vS a (fT vi 0 0) vj)) hx hb hts iwsRX12_tree_in12 hown hK hP 0 rfl rfl 151 (by decide) (hts (.fieldLink RX12 312 "OptimaWorksModel" "arcFrom" "[I") (by decide +kernel)) (fun _ h9 => h9) rfl dX12_tree_54 ?_
              refine lv_iload hx hb dX12_tree_57 (lv_at hl 3 rfl) ?_
              refine va_iald (cA := k 95) (n := 40) (f := (vF 95)) hx hb hK hP 96 95 (WR_get 95 (by decide)) (TR_get 95 (by decide)) (vp_in_nI (show a5 < 40 by omega) (by omega)) dX12_tree_59 ?_
              refine lv_topi (fun y2 hy2 => ?_)
              obtain rfl : ((vF 95) a5) = y2 := (hy2.trans (by rw [nI_clamp (by omega)])).symm
              refine lv_topi (fun y3 hy3 => ?_)
              obtain rfl : (nI x5) = y3 := (hy3.trans (ex5)).symm
              refine va_iald (cA := k 103) (n := 12) (f := j2) hx hb hK hP 104 103 (WR_get 103 (by decide)) (TR_get 103 (by decide)) (vp_in_nI (show x5 < 12 by omega) (by omega)) dX12_tree_60 ?_
              refine lv_topi (fun y4 hy4 => ?_)
              obtain rfl : (j2 x5) = y4 := (hy4.trans (by rw [nI_clamp (by omega)])).symm
              refine lv_topi (fun y5 hy5 => ?_)
              obtain rfl : (nI u5) = y5 := (hy5.trans (eu5)).symm
              refine lv_istore hx hb dX12_tree_61 hl (by decide) rfl (fun ls (hl : lv_has ls _ ([(5, .int (nI u5)), (0, .ref h0), (1, .long bt), (3, .int (nI c5)), (4, .int (nI a5))])) => ?_)
              refine lv_aload_n hx hb dX12_tree_63 rfl (lv_at hl 1 rfl) ?_
              refine va_get (D := (dC, dI)) (ci := 12) (v := .ref (a 103)) (C := RX12) (T := TX12) (N := 163) (fs := fM (vS a (fT vi 0 0) vj)) hx hb hts iwsRX12_tree_in12 hown hK hP 0 rfl rfl 159 (by decide) (hts _ hm_r_X12_tree_0) (fun _ h9 => h9) rfl dX12_tree_64 ?_
              refine lv_aload_n hx hb dX12_tree_67 rfl (lv_at hl 1 rfl) ?_
              refine va_get (D := (dC, dI)) (ci := 12) (v := .ref (a 96)) (C := RX12) (T := TX12) (N := 163) (fs := fM (vS a (fT vi 0 0) vj)) hx hb hts iwsRX12_tree_in12 hown hK hP 0 rfl rfl 152 (by decide) (hts (.fieldLink RX12 315 "OptimaWorksModel" "arcTo" "[I") (by decide +kernel)) (fun _ h9 => h9) rfl dX12_tree_68 ?_
              refine lv_iload hx hb dX12_tree_71 (lv_at hl 4 rfl) ?_
              refine va_iald (cA := k 96) (n := 40) (f := (vF 96)) hx hb hK hP 97 96 (WR_get 96 (by decide)) (TR_get 96 (by decide)) (vp_in_nI (show a5 < 40 by omega) (by omega)) dX12_tree_73 ?_
              refine lv_topi (fun y6 hy6 => ?_)
              obtain rfl : ((vF 96) a5) = y6 := (hy6.trans (by rw [nI_clamp (by omega)])).symm
              refine lv_topi (fun y7 hy7 => ?_)
              obtain rfl : (nI y5) = y7 := (hy7.trans (ey5)).symm
              refine va_iald (cA := k 103) (n := 12) (f := j2) hx hb hK hP 104 103 (WR_get 103 (by decide)) (TR_get 103 (by decide)) (vp_in_nI (show y5 < 12 by omega) (by omega)) dX12_tree_74 ?_
              refine lv_topi (fun y8 hy8 => ?_)
              obtain rfl : (j2 y5) = y8 := (hy8.trans (by rw [nI_clamp (by omega)])).symm
              refine lv_topi (fun y9 hy9 => ?_)
              obtain rfl : (nI w5) = y9 := (hy9.trans (ew5)).symm
              refine lv_istore hx hb dX12_tree_75 hl (by decide) rfl (fun ls (hl : lv_has ls _ ([(6, .int (nI w5)), (5, .int (nI u5)), (0, .ref h0), (1, .long bt), (3, .int (nI c5)), (4, .int (nI a5))])) => ?_)
              refine lv_aload_n hx hb dX12_tree_77 rfl (lv_at hl 2 rfl) ?_
              refine va_get (D := (dC, dI)) (ci := 12) (v := .ref (a 98)) (C := RX12) (T := TX12) (N := 163) (fs := fM (vS a (fT vi 0 0) vj)) hx hb hts iwsRX12_tree_in12 hown hK hP 0 rfl rfl 154 (by decide) (hts (.fieldLink RX12 321 "OptimaWorksModel" "arcCost" "[I") (by decide +kernel)) (fun _ h9 => h9) rfl dX12_tree_78 ?_
              refine lv_iload hx hb dX12_tree_81 (lv_at hl 5 rfl) ?_
              refine va_iald (cA := k 98) (n := 40) (f := (vF 98)) hx hb hK hP 99 98 (WR_get 98 (by decide)) (TR_get 98 (by decide)) (vp_in_nI (show a5 < 40 by omega) (by omega)) dX12_tree_83 ?_
              refine lv_topi (fun y10 hy10 => ?_)
              obtain rfl : ((vF 98) a5) = y10 := (hy10.trans (by rw [nI_clamp (by omega)])).symm
              refine lv_iload_n hx hb dX12_tree_84 rfl (lv_at hl 4 rfl) ?_
              refine lv_icmp_ne (tgt := 152) hx hb dX12_tree_85 (by decide) (fun c_85 => ?_) (fun c_85 => ?_)
              · have t_85 : (((vF 98) a5)).toInt ≠ ((c5 : Nat) : Int) := toI_ne c_85 rfl (nI_toInt (by omega))
                refine lv_iinc (v := (nI (a5 + 1))) hx hb dX12_tree_152 hl (k := 5) rfl (nI_add a5 1) (by decide) rfl (fun ls (hl : lv_has ls _ ([(4, .int (nI (a5 + 1))), (6, .int (nI w5)), (5, .int (nI u5)), (0, .ref h0), (1, .long bt), (3, .int (nI c5))])) => ?_)
                refine lv_goto (tgt := 40) hx hb dX12_tree_155 (by decide) ?_
                have hl : lv_has _ _ ([(0, .ref h0), (1, .long bt), (3, .int (nI c5)), (4, .int (nI (a5 + 1)))]) := lv_sub hl [3, 4, 5, 0] rfl
                exact ih40_2 (a5 + 1) bt j2 _ _ _ (by omega) (hj2) (by first | exact hT2.other t_85 | (have exf : (j2 (tFr (((ar : Nat) : Int), vF 95, vF 96, vF 97, vF 98) a5)).toInt = ((u5 : Nat) : Int) := (by rw [show tFr (((ar : Nat) : Int), vF 95, vF 96, vF 97, vF 98) a5 = x5 from (by show (vF 95 a5).toInt.toNat = x5; rw [ex5, nI_toInt (by omega)]; omega), eu5]; exact nI_toInt (by omega)); have eyf : (j2 (tTo (((ar : Nat) : Int), vF 95, vF 96, vF 97, vF 98) a5)).toInt = ((w5 : Nat) : Int) := (by rw [show tTo (((ar : Nat) : Int), vF 95, vF 96, vF 97, vF 98) a5 = y5 from (by show (vF 96 a5).toInt.toNat = y5; rw [ey5, nI_toInt (by omega)]; omega), ew5]; exact nI_toInt (by omega)); exact hT2.same (ArO.val hAr) (by dsimp only; omega) t_85 (by rw [exf, eyf]; exact t_92))) (by omega) hP hD hS hl
              · have t_85 : (((vF 98) a5)).toInt = ((c5 : Nat) : Int) := toI_nne c_85 rfl (nI_toInt (by omega))
                refine lv_iload hx hb dX12_tree_88 (lv_at hl 1 rfl) ?_
                refine lv_iload hx hb dX12_tree_90 (lv_at hl 0 rfl) ?_
                refine lv_icmp_ne (tgt := 98) hx hb dX12_tree_92 (by decide) (fun c_92 => ?_) (fun c_92 => ?_)
                · have t_92 : ((u5 : Nat) : Int) ≠ ((w5 : Nat) : Int) := toI_ne c_92 (nI_toInt (by omega)) (nI_toInt (by omega))
                  refine lv_lload_n hx hb dX12_tree_98 rfl (lv_at hl 3 rfl) ?_
                  refine lv_lconst (v := 1) hx hb dX12_tree_99 (by decide) ?_
                  refine lv_iload hx hb dX12_tree_100 (lv_at hl 5 rfl) ?_
                  refine lv_lshl hx hb dX12_tree_102 rfl ?_
                  refine lv_lor hx hb dX12_tree_103 ?_
                  refine lv_lstore_n hx hb dX12_tree_104 rfl hl (by decide) rfl (fun ls (hl : lv_has ls _ ([(1, .long (bt ||| (1 <<< (((nI a5) : Int32).toInt64 &&& 63)))), (6, .int (nI w5)), (5, .int (nI u5)), (0, .ref h0), (3, .int (nI c5)), (4, .int (nI a5))])) => ?_)
                  refine lv_iconst (v := 0) hx hb dX12_tree_105 (by decide) ?_
                  refine lv_istore hx hb dX12_tree_106 hl (by decide) rfl (fun ls (hl : lv_has ls _ ([(7, .int 0), (1, .long (bt ||| (1 <<< (((nI a5) : Int32).toInt64 &&& 63)))), (6, .int (nI w5)), (5, .int (nI u5)), (0, .ref h0), (3, .int (nI c5)), (4, .int (nI a5))])) => ?_)
                  have hl : lv_has _ _ ([(0, .ref h0), (1, .long (bt ||| (1 <<< (((nI a5) : Int32).toInt64 &&& 63)))), (3, .int (nI c5)), (4, .int (nI a5)), (5, .int (nI u5)), (6, .int (nI w5)), (7, .int (nI 0))]) := lv_sub hl [4, 1, 5, 6, 3, 2, 0] rfl
                  refine (fun (loop : ∀ (n9 : Nat) (n5 : Nat) (bt2 : Int64) (j3 : Nat → Int32) (H : Heap) (locs : List Loc) (ls : Array Slot), (n5 ≤ 12) → (∀ n, n < 12 → ∃ x, x < 12 ∧ j3 n = nI x) → (bt2 = (bt ||| ((1 : Int64) <<< ((nI a5).toInt64 &&& 63)))) → (∀ i, i < 12 → (j3 i).toInt = if i < n5 ∧ (j2 i).toInt = ((w5 : Nat) : Int) then ((u5 : Nat) : Int) else (j2 i).toInt) →  (12 < n5 + n9) → va_P (dC, dI) vwCl (WR a k h0 (fT vi 0 0) vj (fT vF 103 j3) vG) H → va_D A (WR a k h0 (fT vi 0 0) vj (fT vF 103 j3) vG) → va_S A s.heap H locs → lv_has ls 8 [(0, .ref h0), (1, .long bt2), (3, .int (nI c5)), (4, .int (nI a5)), (5, .int (nI u5)), (6, .int (nI w5)), (7, .int (nI n5))] → W p l e _ s m _ below meth c H locs 0 0 _ (F0 m 108 ls [])) => loop (13) 0 (bt ||| (1 <<< (((nI a5) : Int32).toInt64 &&& 63))) j2 _ _ _ (by omega) (hj2) (rfl) (tRel.start) (by omega) hP hD hS hl) ?_
                  intro n9
                  induction n9 with
                  | zero => intro n5 bt2 j3 H locs ls hn5 hj3 hb2 hj4 hf9; exact False.elim (by omega)
                  | succ n9 ih108_3 =>
                    intro n5 bt2 j3 H locs ls hn5 hj3 hb2 hj4 hf108_3 hP hD hS hl
                    refine lv_iload hx hb dX12_tree_108 (lv_at hl 6 rfl) ?_
                    refine lv_bipush (v := 12) hx hb dX12_tree_110 (by decide) ?_
                    refine lv_icmp_ge (tgt := 152) hx hb dX12_tree_112 (by decide) (fun c_112 => ?_) (fun c_112 => ?_)
                    · have t_112 : ((n5 : Nat) : Int) ≥ 12 := toI_ge c_112 (nI_toInt (by omega)) (by decide)
                      refine lv_iinc (v := (nI (a5 + 1))) hx hb dX12_tree_152 hl (k := 3) rfl (nI_add a5 1) (by decide) rfl (fun ls (hl : lv_has ls _ ([(4, .int (nI (a5 + 1))), (0, .ref h0), (1, .long bt2), (3, .int (nI c5)), (5, .int (nI u5)), (6, .int (nI w5)), (7, .int (nI n5))])) => ?_)
                      refine lv_goto (tgt := 40) hx hb dX12_tree_155 (by decide) ?_
                      have hl : lv_has _ _ ([(0, .ref h0), (1, .long bt2), (3, .int (nI c5)), (4, .int (nI (a5 + 1)))]) := lv_sub hl [1, 2, 3, 0] rfl
                      exact ih40_2 (a5 + 1) bt2 j3 _ _ _ (by omega) (hj3) (by have exf : (j2 (tFr (((ar : Nat) : Int), vF 95, vF 96, vF 97, vF 98) a5)).toInt = ((u5 : Nat) : Int) := (by rw [show tFr (((ar : Nat) : Int), vF 95, vF 96, vF 97, vF 98) a5 = x5 from (by show (vF 95 a5).toInt.toNat = x5; rw [ex5, nI_toInt (by omega)]; omega), eu5]; exact nI_toInt (by omega)); have eyf : (j2 (tTo (((ar : Nat) : Int), vF 95, vF 96, vF 97, vF 98) a5)).toInt = ((w5 : Nat) : Int) := (by rw [show tTo (((ar : Nat) : Int), vF 95, vF 96, vF 97, vF 98) a5 = y5 from (by show (vF 96 a5).toInt.toNat = y5; rw [ey5, nI_toInt (by omega)]; omega), ew5]; exact nI_toInt (by omega)); rw [hb2]; exact hT2.take (ArO.val hAr) (by dsimp only; omega) (by omega) t_85 (by rw [exf, eyf]; exact t_92) (by rw [exf, eyf]; exact tRel.done hj4 (by omega))) (by omega) hP hD hS hl
                    · have t_112 : ¬ ((n5 : Nat) : Int) ≥ 12 := toI_nge c_112 (nI_toInt (by omega)) (by decide)
                      obtain ⟨z5, hz5, ez5⟩ := hj3 n5 (by omega)
                      refine lv_aload_n hx hb dX12_tree_115 rfl (lv_at hl 0 rfl) ?_
                      refine va_get (D := (dC, dI)) (ci := 12) (v := .ref (a 103)) (C := RX12) (T := TX12) (N := 163) (fs := fM (vS a (fT vi 0 0) vj)) hx hb hts iwsRX12_tree_in12 hown hK hP 0 rfl rfl 159 (by decide) (hts _ hm_r_X12_tree_0) (fun _ h9 => h9) rfl dX12_tree_116 ?_
                      refine lv_iload hx hb dX12_tree_119 (lv_at hl 6 rfl) ?_
                      refine lv_aload_n hx hb dX12_tree_121 rfl (lv_at hl 0 rfl) ?_
                      refine va_get (D := (dC, dI)) (ci := 12) (v := .ref (a 103)) (C := RX12) (T := TX12) (N := 163) (fs := fM (vS a (fT vi 0 0) vj)) hx hb hts iwsRX12_tree_in12 hown hK hP 0 rfl rfl 159 (by decide) (hts _ hm_r_X12_tree_0) (fun _ h9 => h9) rfl dX12_tree_122 ?_
                      refine lv_iload hx hb dX12_tree_125 (lv_at hl 6 rfl) ?_
                      refine va_iald (cA := k 103) (n := 12) (f := j3) hx hb hK hP 104 103 (WR_get 103 (by decide)) (TR_get 103 (by decide)) (vp_in_nI (show n5 < 12 by omega) (by omega)) dX12_tree_127 ?_
                      refine lv_topi (fun y11 hy11 => ?_)
                      obtain rfl : (j3 n5) = y11 := (hy11.trans (by rw [nI_clamp (by omega)])).symm
                      refine lv_topi (fun y12 hy12 => ?_)
                      obtain rfl : (nI z5) = y12 := (hy12.trans (ez5)).symm
                      refine lv_iload hx hb dX12_tree_128 (lv_at hl 5 rfl) ?_
                      refine W.cut (pc := 145) (fun H locs ls stk => ∃ (v9 : Nat), (v9 < 12) ∧ (((v9 : Nat) : Int) = if ((z5 : Nat) : Int) = ((w5 : Nat) : Int) then ((u5 : Nat) : Int) else ((z5 : Nat) : Int)) ∧  stk = [.int (nI v9), .int (nI n5), .ref (a 103)] ∧ va_P (dC, dI) vwCl (WR a k h0 (fT vi 0 0) vj (fT vF 103 j3) vG) H ∧ va_D A (WR a k h0 (fT vi 0 0) vj (fT vF 103 j3) vG) ∧ va_S A s.heap H locs ∧ lv_has ls 8 [(0, .ref h0), (1, .long bt2), (3, .int (nI c5)), (4, .int (nI a5)), (5, .int (nI u5)), (6, .int (nI w5)), (7, .int (nI n5))]) (fun join1 => ?_) ?_
                      · refine lv_icmp_ne (tgt := 138) hx hb dX12_tree_130 (by decide) (fun c_130 => ?_) (fun c_130 => ?_)
                        · have t_130 : ((z5 : Nat) : Int) ≠ ((w5 : Nat) : Int) := toI_ne c_130 (nI_toInt (by omega)) (nI_toInt (by omega))
                          refine lv_aload_n hx hb dX12_tree_138 rfl (lv_at hl 0 rfl) ?_
                          refine va_get (D := (dC, dI)) (ci := 12) (v := .ref (a 103)) (C := RX12) (T := TX12) (N := 163) (fs := fM (vS a (fT vi 0 0) vj)) hx hb hts iwsRX12_tree_in12 hown hK hP 0 rfl rfl 159 (by decide) (hts _ hm_r_X12_tree_0) (fun _ h9 => h9) rfl dX12_tree_139 ?_
                          refine lv_iload hx hb dX12_tree_142 (lv_at hl 6 rfl) ?_
                          refine va_iald (cA := k 103) (n := 12) (f := j3) hx hb hK hP 104 103 (WR_get 103 (by decide)) (TR_get 103 (by decide)) (vp_in_nI (show n5 < 12 by omega) (by omega)) dX12_tree_144 ?_
                          refine lv_topi (fun y13 hy13 => ?_)
                          obtain rfl : (j3 n5) = y13 := (hy13.trans (by rw [nI_clamp (by omega)])).symm
                          refine lv_topi (fun y14 hy14 => ?_)
                          obtain rfl : (nI z5) = y14 := (hy14.trans (ez5)).symm
                          have hl : lv_has _ _ ([(0, .ref h0), (1, .long bt2), (3, .int (nI c5)), (4, .int (nI a5)), (5, .int (nI u5)), (6, .int (nI w5)), (7, .int (nI n5))]) := lv_sub hl [0, 1, 2, 3, 4, 5, 6] rfl
                          exact join1 _ _ _ _ ⟨z5, by omega, by first | rw [if_pos (by omega)] | rw [if_neg (by omega)], rfl, hP, hD, hS, hl⟩
                        · have t_130 : ((z5 : Nat) : Int) = ((w5 : Nat) : Int) := toI_nne c_130 (nI_toInt (by omega)) (nI_toInt (by omega))
                          refine lv_iload hx hb dX12_tree_133 (lv_at hl 4 rfl) ?_
                          refine lv_goto (tgt := 145) hx hb dX12_tree_135 (by decide) ?_
                          have hl : lv_has _ _ ([(0, .ref h0), (1, .long bt2), (3, .int (nI c5)), (4, .int (nI a5)), (5, .int (nI u5)), (6, .int (nI w5)), (7, .int (nI n5))]) := lv_sub hl [0, 1, 2, 3, 4, 5, 6] rfl
                          exact join1 _ _ _ _ ⟨u5, by omega, by first | rw [if_pos (by omega)] | rw [if_neg (by omega)], rfl, hP, hD, hS, hl⟩
                      · rintro H locs ls stk ⟨v9, hv9, hv8, rfl, hP, hD, hS, hl⟩
                        refine va_iast (cA := k 103) (n := 12) (f := j3) hx hb hK hP hD hS 104 103 (WR_get 103 (by decide)) (TR_get 103 (by decide)) (vp_in_nI (show n5 < 12 by omega) (by omega)) dX12_tree_145 (fun H locs hP hD hS => ?_)
                        have e9 : fT vF 103 (upd j3 ((nI n5)).toNatClampNeg (nI v9)) = fT (fT vF 103 j3) 103 (upd j3 ((nI n5)).toNatClampNeg (nI v9)) := (fT_sm _ _ _ _).symm
                        have hP := wr_PF e9 (fz_w (WR_F 103 (by decide) _ rfl) hP)
                        have hD := wr_DF e9 (fz_wD (WR_F 103 (by decide) _ rfl) hD)
                        clear e9
                        refine lv_iinc (v := (nI (n5 + 1))) hx hb dX12_tree_146 hl (k := 6) rfl (nI_add n5 1) (by decide) rfl (fun ls (hl : lv_has ls _ ([(7, .int (nI (n5 + 1))), (0, .ref h0), (1, .long bt2), (3, .int (nI c5)), (4, .int (nI a5)), (5, .int (nI u5)), (6, .int (nI w5))])) => ?_)
                        refine lv_goto (tgt := 108) hx hb dX12_tree_149 (by decide) ?_
                        have hl : lv_has _ _ ([(0, .ref h0), (1, .long bt2), (3, .int (nI c5)), (4, .int (nI a5)), (5, .int (nI u5)), (6, .int (nI w5)), (7, .int (nI (n5 + 1)))]) := lv_sub hl [1, 2, 3, 4, 5, 6, 0] rfl
                        exact ih108_3 (n5 + 1) bt2 (upd j3 ((nI n5)).toNatClampNeg (nI v9)) _ _ _ (by omega) (fun n hn => by rw [upd_at (by omega)]; by_cases e9 : n = n5; (rw [if_pos e9]; exact ⟨v9, hv9, rfl⟩); (rw [if_neg e9]; exact hj3 n hn)) (hb2) (tRel.step hj4 (by omega) (nI_clamp (by omega)) (by rw [nI_toInt (by omega), ez5, nI_toInt (by omega)]; exact hv8)) (by omega) hP hD hS hl
                · have t_92 : ((u5 : Nat) : Int) = ((w5 : Nat) : Int) := toI_nne c_92 (nI_toInt (by omega)) (nI_toInt (by omega))
                  refine lv_goto (tgt := 152) hx hb dX12_tree_95 (by decide) ?_
                  refine lv_iinc (v := (nI (a5 + 1))) hx hb dX12_tree_152 hl (k := 5) rfl (nI_add a5 1) (by decide) rfl (fun ls (hl : lv_has ls _ ([(4, .int (nI (a5 + 1))), (6, .int (nI w5)), (5, .int (nI u5)), (0, .ref h0), (1, .long bt), (3, .int (nI c5))])) => ?_)
                  refine lv_goto (tgt := 40) hx hb dX12_tree_155 (by decide) ?_
                  have hl : lv_has _ _ ([(0, .ref h0), (1, .long bt), (3, .int (nI c5)), (4, .int (nI (a5 + 1)))]) := lv_sub hl [3, 4, 5, 0] rfl
                  exact ih40_2 (a5 + 1) bt j2 _ _ _ (by omega) (hj2) (by first | exact hT2.other t_85 | (have exf : (j2 (tFr (((ar : Nat) : Int), vF 95, vF 96, vF 97, vF 98) a5)).toInt = ((u5 : Nat) : Int) := (by rw [show tFr (((ar : Nat) : Int), vF 95, vF 96, vF 97, vF 98) a5 = x5 from (by show (vF 95 a5).toInt.toNat = x5; rw [ex5, nI_toInt (by omega)]; omega), eu5]; exact nI_toInt (by omega)); have eyf : (j2 (tTo (((ar : Nat) : Int), vF 95, vF 96, vF 97, vF 98) a5)).toInt = ((w5 : Nat) : Int) := (by rw [show tTo (((ar : Nat) : Int), vF 95, vF 96, vF 97, vF 98) a5 = y5 from (by show (vF 96 a5).toInt.toNat = y5; rw [ey5, nI_toInt (by omega)]; omega), ew5]; exact nI_toInt (by omega)); exact hT2.same (ArO.val hAr) (by dsimp only; omega) t_85 (by rw [exf, eyf]; exact t_92))) (by omega) hP hD hS hl
    · have t_10 : ¬ ((n1 : Nat) : Int) ≥ 12 := toI_nge c_10 (nI_toInt (by omega)) (by decide)
      refine lv_aload_n hx hb dX12_tree_13 rfl (lv_at hl 0 rfl) ?_
      refine va_get (D := (dC, dI)) (ci := 12) (v := .ref (a 103)) (C := RX12) (T := TX12) (N := 163) (fs := fM (vS a (fT vi 0 0) vj)) hx hb hts iwsRX12_tree_in12 hown hK hP 0 rfl rfl 159 (by decide) (hts _ hm_r_X12_tree_0) (fun _ h9 => h9) rfl dX12_tree_14 ?_
      refine lv_iload_n hx hb dX12_tree_17 rfl (lv_at hl 1 rfl) ?_
      refine lv_iload_n hx hb dX12_tree_18 rfl (lv_at hl 1 rfl) ?_
      refine va_iast (cA := k 103) (n := 12) (f := j1) hx hb hK hP hD hS 104 103 (WR_get 103 (by decide)) (TR_get 103 (by decide)) (vp_in_nI (show n1 < 12 by omega) (by omega)) dX12_tree_19 (fun H locs hP hD hS => ?_)
      have e9 : fT vF 103 (upd j1 ((nI n1)).toNatClampNeg (nI n1)) = fT (fT vF 103 j1) 103 (upd j1 ((nI n1)).toNatClampNeg (nI n1)) := (fT_sm _ _ _ _).symm
      have hP := wr_PF e9 (fz_w (WR_F 103 (by decide) _ rfl) hP)
      have hD := wr_DF e9 (fz_wD (WR_F 103 (by decide) _ rfl) hD)
      clear e9
      refine lv_iinc (v := (nI (n1 + 1))) hx hb dX12_tree_20 hl (k := 1) rfl (nI_add n1 1) (by decide) rfl (fun ls (hl : lv_has ls _ ([(1, .int (nI (n1 + 1))), (0, .ref h0)])) => ?_)
      refine lv_goto (tgt := 7) hx hb dX12_tree_23 (by decide) ?_
      have hl : lv_has _ _ ([(0, .ref h0), (1, .int (nI (n1 + 1)))]) := lv_sub hl [1, 0] rfl
      exact ih7 (n1 + 1) (upd j1 ((nI n1)).toNatClampNeg (nI n1)) _ _ _ (by omega) (fun n hn => by rw [upd_at (by omega)]; by_cases e9 : n = n1; (rw [if_pos e9]; exact ⟨n1, by omega, rfl⟩); (rw [if_neg e9]; exact hj1 n (by omega))) (fun n hn => by rw [upd_at (by omega)]; by_cases e9 : n = n1; (rw [if_pos e9, e9]; exact nI_toInt (by omega)); (rw [if_neg e9]; exact hjx n (by omega))) (by omega) hP hD hS hl
end

theorem hd_yX12_canBegin_RX12 : yX12_canBegin.cls = RX12 ∧ yX12_canBegin.cls ≠ "java/lang/invoke/MethodHandle" ∧ yX12_canBegin.cls ≠ "java/lang/invoke/VarHandle" ∧ (parseMethodDescriptor yX12_canBegin.desc).map (fun d => d.parameters.length) = some 0 := by decide +kernel
theorem hd_yX12_begin1_RX12 : yX12_begin1.cls = RX12 ∧ yX12_begin1.cls ≠ "java/lang/invoke/MethodHandle" ∧ yX12_begin1.cls ≠ "java/lang/invoke/VarHandle" ∧ (parseMethodDescriptor yX12_begin1.desc).map (fun d => d.parameters.length) = some 1 := by decide +kernel
def wsRend1w : List Cond := .code yX12_end1 cX12_end1 2 none :: ([.fieldLink RX12 577 "OptimaWorksModel" "deep" "I", .fieldLink RX12 570 "OptimaWorksModel" "within" "I", .fieldLink RX12 167 "OptimaWorksModel" "extra" "[I", .fieldLink RX12 580 "OptimaWorksModel" "result" "I", .fieldLink RX12 164 "OptimaWorksModel" "begins" "[I", .fieldLink RX12 583 "OptimaWorksModel" "resultFirst" "I"] ++ wsX120)
theorem iwsRend1w_in12 : ∀ w ∈ wsX120, w ∈ wsRend1w := fun _ h => List.mem_cons_of_mem _ (List.mem_append_right _ h)
theorem gdwsRend1w : wsRend1w.all goodWord = true := gdC rfl (gdA (by decide +kernel : ([.fieldLink RX12 577 "OptimaWorksModel" "deep" "I", .fieldLink RX12 570 "OptimaWorksModel" "within" "I", .fieldLink RX12 167 "OptimaWorksModel" "extra" "[I", .fieldLink RX12 580 "OptimaWorksModel" "result" "I", .fieldLink RX12 164 "OptimaWorksModel" "begins" "[I", .fieldLink RX12 583 "OptimaWorksModel" "resultFirst" "I"] : List Cond).all goodWord = true) gdwsX120)
set_option maxHeartbeats 4000000 in
set_option maxRecDepth 100000 in
/-- end1(r), with its depth -/
theorem r_X12_end1w (l : Launch) (dC : Nat → ClassId) (dI : Nat → Nat → Nat) (a : Nat → Nat) (k : Nat → ClassId) (h0 : Nat) (vi : Nat → Int32) (vj : Nat → Int64) (vF : Nat → Nat → Int32) (vG : Nat → Nat → Int64) (rv : Int32) (dE : Nat) (wi : Nat) (xE : Nat) (hdE : vi 74 = nI (dE + 1)) (hdE9 : dE < 120) (hwi : vi 75 = nI wi) (hwi9 : wi ≤ 25) (hxE : vF 48 dE = nI xE) (hxw : xE ≤ wi) (sz : Nat) : Met l yX12_end1 wsRend1w ({ frames := 0, cells := 0, slots := 0, locals := 0 }) (va_Pc [.ref h0, .int rv] (fun U => U.heap.size = sz ∧ va_P (dC, dI) vwCl (WR a k h0 vi vj vF vG) U.heap ∧ va_K (dC, dI) vwCl (tX12 k) U ∧ va_D (fun _ => True) (WR a k h0 vi vj vF vG))) (va_Qv (fun (u : Unit) => True) (fun (u : Unit) t => va_P (dC, dI) vwCl (WR a k h0 (fT (fT (fT (fT vi 74 (nI dE)) 75 (nI (wi - xE))) 76 rv) 77 (vF 47 dE)) vj vF vG) t.heap ∧ va_D (va_A (WR a k h0 vi vj vF vG) sz) (WR a k h0 (fT (fT (fT (fT vi 74 (nI dE)) 75 (nI (wi - xE))) 76 rv) 77 (vF 47 dE)) vj vF vG)) (va_A (WR a k h0 vi vj vF vG) sz)) 0 0 (va_A (WR a k h0 vi vj vF vG) sz) := by
  refine Met.ofW (cc := cX12_end1) (maxL := 2) (ret := none) (by decide) rfl ?_
  intro p e s m args below meth c s₁ B hml hv
  obtain ⟨rfl, hsz, hP, hK, hD0⟩ := hv
  have hx := B.exec
  have hb := B.bytes
  have hr := B.returns
  have hts := atoms_spec (ws := wsRend1w) B.pre
  have hown : s.vm.findClass RX12 = some m.cls := findClass_of_methodNamed B.named
  have hlocks := B.notSynchronized
  subst hsz
  have hD := hD0.self (sz := s.heap.size)
  generalize hAe : va_A (WR a k h0 vi vj vF vG) s.heap.size = A at hD ⊢
  have hA : ∀ q : Nat, s.heap.size ≤ q → A q := fun q h => by rw [← hAe]; exact Or.inr h
  have hS : va_S A s.heap s.heap [] := va_S.rf
  have hl := lv_entry ([.ref h0, .int rv]) (n := 2) (Nat.le_of_ble_eq_true rfl)
  rw [lg_entry_eq]
  generalize (lg_sl ([.ref h0, .int rv]) ++ List.replicate (2 - (lg_sl ([.ref h0, .int rv])).length) Slot.unset).toArray = ls at hl ⊢
  have hl : lv_has ls 2 [(0, .ref h0), (1, .int rv)] := hl
  refine lv_aload_n hx hb dX12_end1_0 rfl (lv_at hl 0 rfl) ?_
  refine lv_dup hx hb dX12_end1_1 rfl ?_
  refine va_get (D := (dC, dI)) (ci := 12) (v := .int (vi 74)) (C := RX12) (T := TX12) (N := 163) (fs := fM (vS a vi vj)) hx hb hts iwsRend1w_in12 hown hK hP 0 rfl rfl 74 (by decide) (hts (.fieldLink RX12 577 "OptimaWorksModel" "deep" "I") (by decide +kernel)) (fun _ h9 => h9) rfl dX12_end1_2 ?_
  refine lv_topi (fun y1 hy1 => ?_)
  obtain rfl : (nI (dE + 1)) = y1 := (hy1.trans (hdE)).symm
  refine lv_iconst (v := 1) hx hb dX12_end1_5 (by decide) ?_
  refine lv_isub hx hb dX12_end1_6 ?_
  refine lv_topi (fun y2 hy2 => ?_)
  obtain rfl : (nI ((dE + 1) - 1)) = y2 := (hy2.trans (pk_sub (a := (dE + 1)) (b := 1) (by omega))).symm
  refine va_put (D := (dC, dI)) (ci := 12) (v := .int (nI ((dE + 1) - 1))) (ty := .int) (C := RX12) (T := TX12) (N := 163) (fs := fM (vS a vi vj)) hx hb hts iwsRend1w_in12 tyX12 tyX12_ok nmX12 hown hK hP hD hS 0 rfl rfl 74 (by decide) (hts (.fieldLink RX12 577 "OptimaWorksModel" "deep" "I") (by decide +kernel)) (fun _ h9 => h9) rfl (by decide +kernel) rfl rfl (Nat.le_of_ble_eq_true rfl) dX12_end1_7 (fun H locs hP hD hS => ?_)
  have hP : va_P (dC, dI) vwCl (WR a k h0 (fT vi 74 (nI ((dE + 1) - 1))) vj vF vG) H := by rw [← WR_i 74 _ rfl]; exact hP
  have hD : va_D A (WR a k h0 (fT vi 74 (nI ((dE + 1) - 1))) vj vF vG) := by rw [← WR_i 74 _ rfl]; exact hD
  refine lv_aload_n hx hb dX12_end1_10 rfl (lv_at hl 0 rfl) ?_
  refine lv_dup hx hb dX12_end1_11 rfl ?_
  refine va_get (D := (dC, dI)) (ci := 12) (v := .int (vi 75)) (C := RX12) (T := TX12) (N := 163) (fs := fM (vS a (fT vi 74 (nI ((dE + 1) - 1))) vj)) hx hb hts iwsRend1w_in12 hown hK hP 0 rfl rfl 75 (by decide) (hts (.fieldLink RX12 570 "OptimaWorksModel" "within" "I") (by decide +kernel)) (fun _ h9 => h9) rfl dX12_end1_12 ?_
  refine lv_topi (fun y3 hy3 => ?_)
  obtain rfl : (nI wi) = y3 := (hy3.trans (hwi)).symm
  refine lv_aload_n hx hb dX12_end1_15 rfl (lv_at hl 0 rfl) ?_
  refine va_get (D := (dC, dI)) (ci := 12) (v := .ref (a 48)) (C := RX12) (T := TX12) (N := 163) (fs := fM (vS a (fT vi 74 (nI ((dE + 1) - 1))) vj)) hx hb hts iwsRend1w_in12 hown hK hP 0 rfl rfl 73 (by decide) (hts (.fieldLink RX12 167 "OptimaWorksModel" "extra" "[I") (by decide +kernel)) (fun _ h9 => h9) rfl dX12_end1_16 ?_
  refine lv_aload_n hx hb dX12_end1_19 rfl (lv_at hl 0 rfl) ?_
  refine va_get (D := (dC, dI)) (ci := 12) (v := .int (nI ((dE + 1) - 1))) (C := RX12) (T := TX12) (N := 163) (fs := fM (vS a (fT vi 74 (nI ((dE + 1) - 1))) vj)) hx hb hts iwsRend1w_in12 hown hK hP 0 rfl rfl 74 (by decide) (hts (.fieldLink RX12 577 "OptimaWorksModel" "deep" "I") (by decide +kernel)) (fun _ h9 => h9) rfl dX12_end1_20 ?_
  refine va_iald (cA := k 48) (n := 120) (f := (vF 48)) hx hb hK hP 49 48 (WR_get 48 (by decide)) (TR_get 48 (by decide)) (vp_in_nI (show ((dE + 1) - 1) < 120 by omega) (by omega)) dX12_end1_23 ?_
  refine lv_topi (fun y4 hy4 => ?_)
  obtain rfl : ((vF 48) ((dE + 1) - 1)) = y4 := (hy4.trans (by rw [nI_clamp (by omega)])).symm
  refine lv_topi (fun y5 hy5 => ?_)
  obtain rfl : (nI xE) = y5 := (hy5.trans (hxE)).symm
  refine lv_isub hx hb dX12_end1_24 ?_
  refine lv_topi (fun y6 hy6 => ?_)
  obtain rfl : (nI (wi - xE)) = y6 := (hy6.trans (pk_sub (a := wi) (b := xE) (by omega))).symm
  refine va_put (D := (dC, dI)) (ci := 12) (v := .int (nI (wi - xE))) (ty := .int) (C := RX12) (T := TX12) (N := 163) (fs := fM (vS a (fT vi 74 (nI ((dE + 1) - 1))) vj)) hx hb hts iwsRend1w_in12 tyX12 tyX12_ok nmX12 hown hK hP hD hS 0 rfl rfl 75 (by decide) (hts (.fieldLink RX12 570 "OptimaWorksModel" "within" "I") (by decide +kernel)) (fun _ h9 => h9) rfl (by decide +kernel) rfl rfl (Nat.le_of_ble_eq_true rfl) dX12_end1_25 (fun H locs hP hD hS => ?_)
  have hP : va_P (dC, dI) vwCl (WR a k h0 (fT (fT vi 74 (nI ((dE + 1) - 1))) 75 (nI (wi - xE))) vj vF vG) H := by rw [← WR_i 75 _ rfl]; exact hP
  have hD : va_D A (WR a k h0 (fT (fT vi 74 (nI ((dE + 1) - 1))) 75 (nI (wi - xE))) vj vF vG) := by rw [← WR_i 75 _ rfl]; exact hD
  refine lv_aload_n hx hb dX12_end1_28 rfl (lv_at hl 0 rfl) ?_
  refine lv_iload_n hx hb dX12_end1_29 rfl (lv_at hl 1 rfl) ?_
  refine va_put (D := (dC, dI)) (ci := 12) (v := .int rv) (ty := .int) (C := RX12) (T := TX12) (N := 163) (fs := fM (vS a (fT (fT vi 74 (nI ((dE + 1) - 1))) 75 (nI (wi - xE))) vj)) hx hb hts iwsRend1w_in12 tyX12 tyX12_ok nmX12 hown hK hP hD hS 0 rfl rfl 76 (by decide) (hts (.fieldLink RX12 580 "OptimaWorksModel" "result" "I") (by decide +kernel)) (fun _ h9 => h9) rfl (by decide +kernel) rfl rfl (Nat.le_of_ble_eq_true rfl) dX12_end1_30 (fun H locs hP hD hS => ?_)
  have hP : va_P (dC, dI) vwCl (WR a k h0 (fT (fT (fT vi 74 (nI ((dE + 1) - 1))) 75 (nI (wi - xE))) 76 rv) vj vF vG) H := by rw [← WR_i 76 _ rfl]; exact hP
  have hD : va_D A (WR a k h0 (fT (fT (fT vi 74 (nI ((dE + 1) - 1))) 75 (nI (wi - xE))) 76 rv) vj vF vG) := by rw [← WR_i 76 _ rfl]; exact hD
  refine lv_aload_n hx hb dX12_end1_33 rfl (lv_at hl 0 rfl) ?_
  refine lv_aload_n hx hb dX12_end1_34 rfl (lv_at hl 0 rfl) ?_
  refine va_get (D := (dC, dI)) (ci := 12) (v := .ref (a 47)) (C := RX12) (T := TX12) (N := 163) (fs := fM (vS a (fT (fT (fT vi 74 (nI ((dE + 1) - 1))) 75 (nI (wi - xE))) 76 rv) vj)) hx hb hts iwsRend1w_in12 hown hK hP 0 rfl rfl 72 (by decide) (hts (.fieldLink RX12 164 "OptimaWorksModel" "begins" "[I") (by decide +kernel)) (fun _ h9 => h9) rfl dX12_end1_35 ?_
  refine lv_aload_n hx hb dX12_end1_38 rfl (lv_at hl 0 rfl) ?_
  refine va_get (D := (dC, dI)) (ci := 12) (v := .int (nI ((dE + 1) - 1))) (C := RX12) (T := TX12) (N := 163) (fs := fM (vS a (fT (fT (fT vi 74 (nI ((dE + 1) - 1))) 75 (nI (wi - xE))) 76 rv) vj)) hx hb hts iwsRend1w_in12 hown hK hP 0 rfl rfl 74 (by decide) (hts (.fieldLink RX12 577 "OptimaWorksModel" "deep" "I") (by decide +kernel)) (fun _ h9 => h9) rfl dX12_end1_39 ?_
  refine va_iald (cA := k 47) (n := 120) (f := (vF 47)) hx hb hK hP 48 47 (WR_get 47 (by decide)) (TR_get 47 (by decide)) (vp_in_nI (show ((dE + 1) - 1) < 120 by omega) (by omega)) dX12_end1_42 ?_
  refine lv_topi (fun y7 hy7 => ?_)
  obtain rfl : ((vF 47) ((dE + 1) - 1)) = y7 := (hy7.trans (by rw [nI_clamp (by omega)])).symm
  refine va_put (D := (dC, dI)) (ci := 12) (v := .int ((vF 47) ((dE + 1) - 1))) (ty := .int) (C := RX12) (T := TX12) (N := 163) (fs := fM (vS a (fT (fT (fT vi 74 (nI ((dE + 1) - 1))) 75 (nI (wi - xE))) 76 rv) vj)) hx hb hts iwsRend1w_in12 tyX12 tyX12_ok nmX12 hown hK hP hD hS 0 rfl rfl 77 (by decide) (hts (.fieldLink RX12 583 "OptimaWorksModel" "resultFirst" "I") (by decide +kernel)) (fun _ h9 => h9) rfl (by decide +kernel) rfl rfl (Nat.le_of_ble_eq_true rfl) dX12_end1_43 (fun H locs hP hD hS => ?_)
  have hP : va_P (dC, dI) vwCl (WR a k h0 (fT (fT (fT (fT vi 74 (nI ((dE + 1) - 1))) 75 (nI (wi - xE))) 76 rv) 77 ((vF 47) ((dE + 1) - 1))) vj vF vG) H := by rw [← WR_i 77 _ rfl]; exact hP
  have hD : va_D A (WR a k h0 (fT (fT (fT (fT vi 74 (nI ((dE + 1) - 1))) 75 (nI (wi - xE))) 76 rv) 77 ((vF 47) ((dE + 1) - 1))) vj vF vG) := by rw [← WR_i 77 _ rfl]; exact hD
  refine W.widen (k := 0) (n := 0) (by decide +kernel) (by decide +kernel) ?_
  have e9 : fT (fT (fT (fT vi 74 (nI dE)) 75 (nI (wi - xE))) 76 rv) 77 (vF 47 dE) = fT (fT (fT (fT vi 74 (nI ((dE + 1) - 1))) 75 (nI (wi - xE))) 76 rv) 77 ((vF 47) ((dE + 1) - 1)) := by funext q9; by_cases h9_74 : q9 = 74; (subst h9_74; exact ((fT_ne _ _ (Nat.ne_of_beq_eq_false rfl)).trans ((fT_ne _ _ (Nat.ne_of_beq_eq_false rfl)).trans ((fT_ne _ _ (Nat.ne_of_beq_eq_false rfl)).trans (fT_eq _ _ _)))).trans (Eq.trans (by first | rfl | assumption | (symm; assumption) | (subst_vars; rfl)) ((fT_ne _ _ (Nat.ne_of_beq_eq_false rfl)).trans ((fT_ne _ _ (Nat.ne_of_beq_eq_false rfl)).trans ((fT_ne _ _ (Nat.ne_of_beq_eq_false rfl)).trans (fT_eq _ _ _)))).symm)); by_cases h9_75 : q9 = 75; (subst h9_75; exact ((fT_ne _ _ (Nat.ne_of_beq_eq_false rfl)).trans ((fT_ne _ _ (Nat.ne_of_beq_eq_false rfl)).trans (fT_eq _ _ _))).trans (Eq.trans (by first | rfl | assumption | (symm; assumption) | (subst_vars; rfl)) ((fT_ne _ _ (Nat.ne_of_beq_eq_false rfl)).trans ((fT_ne _ _ (Nat.ne_of_beq_eq_false rfl)).trans (fT_eq _ _ _))).symm)); by_cases h9_76 : q9 = 76; (subst h9_76; exact ((fT_ne _ _ (Nat.ne_of_beq_eq_false rfl)).trans (fT_eq _ _ _)).trans (Eq.trans (by first | rfl | assumption | (symm; assumption) | (subst_vars; rfl)) ((fT_ne _ _ (Nat.ne_of_beq_eq_false rfl)).trans (fT_eq _ _ _)).symm)); by_cases h9_77 : q9 = 77; (subst h9_77; exact (fT_eq _ _ _).trans (Eq.trans (by first | rfl | assumption | (symm; assumption) | (subst_vars; rfl)) (fT_eq _ _ _).symm)); exact ((fT_ne _ _ h9_77).trans ((fT_ne _ _ h9_76).trans ((fT_ne _ _ h9_75).trans (fT_ne _ _ h9_74)))).trans ((fT_ne _ _ h9_77).trans ((fT_ne _ _ h9_76).trans ((fT_ne _ _ h9_75).trans (fT_ne _ _ h9_74)))).symm
  have hP : va_P (dC, dI) vwCl (WR a k h0 (fT (fT (fT (fT vi 74 (nI dE)) 75 (nI (wi - xE))) 76 rv) 77 (vF 47 dE)) vj vF vG) H := by rw [e9]; exact hP
  have hD : va_D A (WR a k h0 (fT (fT (fT (fT vi 74 (nI dE)) 75 (nI (wi - xE))) 76 rv) 77 (vF 47 dE)) vj vF vG) := by rw [e9]; exact hD
  clear e9
  exact W.vret hx hb hr (fun t9_ ht hW => ⟨⟨(), rfl, trivial, by rw [ht]; exact hP, hD⟩, hS.F ht⟩) hS.2.2 dX12_end1_46
theorem dX12_begin1_0 : decode cX12_begin1 0 = .ok (.aload_n 0, 1) := dk_42 (by decide +kernel)
theorem dX12_begin1_1 : decode cX12_begin1 1 = .ok (.getfield 515, 3) := dk_180 (by decide +kernel)
theorem dX12_begin1_4 : decode cX12_begin1 4 = .ok (.ifCond .le 4, 3) := dk_158 (by decide +kernel)
theorem dX12_begin1_7 : decode cX12_begin1 7 = .ok (.return_, 1) := dk_177 (by decide +kernel)
theorem dX12_begin1_8 : decode cX12_begin1 8 = .ok (.iload_n 1, 1) := dk_27 (by decide +kernel)
theorem dX12_begin1_9 : decode cX12_begin1 9 = .ok (.iconst 3, 1) := dk_6 (by decide +kernel)
theorem dX12_begin1_10 : decode cX12_begin1 10 = .ok (.if_icmp .ne 12, 3) := dk_160 (by decide +kernel)
theorem dX12_begin1_13 : decode cX12_begin1 13 = .ok (.aload_n 0, 1) := dk_42 (by decide +kernel)
theorem dX12_begin1_14 : decode cX12_begin1 14 = .ok (.bipush 10, 2) := dk_16 (by decide +kernel)
theorem dX12_begin1_16 : decode cX12_begin1 16 = .ok (.invokevirtual 530, 3) := dk_182 (by decide +kernel)
theorem dX12_begin1_19 : decode cX12_begin1 19 = .ok (.ifCond .eq 7, 3) := dk_153 (by decide +kernel)
theorem dX12_begin1_22 : decode cX12_begin1 22 = .ok (.iconst 1, 1) := dk_4 (by decide +kernel)
theorem dX12_begin1_23 : decode cX12_begin1 23 = .ok (.goto 4, 3) := dk_167 (by decide +kernel)
theorem dX12_begin1_26 : decode cX12_begin1 26 = .ok (.iconst 0, 1) := dk_3 (by decide +kernel)
theorem dX12_begin1_27 : decode cX12_begin1 27 = .ok (.istore_n 2, 1) := dk_61 (by decide +kernel)
theorem dX12_begin1_28 : decode cX12_begin1 28 = .ok (.iload_n 2, 1) := dk_28 (by decide +kernel)
theorem dX12_begin1_29 : decode cX12_begin1 29 = .ok (.ifCond .eq 67, 3) := dk_153 (by decide +kernel)
theorem dX12_begin1_32 : decode cX12_begin1 32 = .ok (.aload_n 0, 1) := dk_42 (by decide +kernel)
theorem dX12_begin1_33 : decode cX12_begin1 33 = .ok (.getfield 570, 3) := dk_180 (by decide +kernel)
theorem dX12_begin1_36 : decode cX12_begin1 36 = .ok (.bipush 25, 2) := dk_16 (by decide +kernel)
theorem dX12_begin1_38 : decode cX12_begin1 38 = .ok (.if_icmp .ne 58, 3) := dk_160 (by decide +kernel)
theorem dX12_begin1_41 : decode cX12_begin1 41 = .ok (.iload_n 1, 1) := dk_27 (by decide +kernel)
theorem dX12_begin1_42 : decode cX12_begin1 42 = .ok (.iconst 2, 1) := dk_5 (by decide +kernel)
theorem dX12_begin1_43 : decode cX12_begin1 43 = .ok (.if_icmp .eq 8, 3) := dk_159 (by decide +kernel)
theorem dX12_begin1_46 : decode cX12_begin1 46 = .ok (.iload_n 1, 1) := dk_27 (by decide +kernel)
theorem dX12_begin1_47 : decode cX12_begin1 47 = .ok (.iconst 3, 1) := dk_6 (by decide +kernel)
theorem dX12_begin1_48 : decode cX12_begin1 48 = .ok (.if_icmp .ne 7, 3) := dk_160 (by decide +kernel)
theorem dX12_begin1_51 : decode cX12_begin1 51 = .ok (.iconst 1, 1) := dk_4 (by decide +kernel)
theorem dX12_begin1_52 : decode cX12_begin1 52 = .ok (.goto 4, 3) := dk_167 (by decide +kernel)
theorem dX12_begin1_55 : decode cX12_begin1 55 = .ok (.iconst 0, 1) := dk_3 (by decide +kernel)
theorem dX12_begin1_56 : decode cX12_begin1 56 = .ok (.istore_n 3, 1) := dk_62 (by decide +kernel)
theorem dX12_begin1_57 : decode cX12_begin1 57 = .ok (.iload_n 3, 1) := dk_29 (by decide +kernel)
theorem dX12_begin1_58 : decode cX12_begin1 58 = .ok (.ifCond .eq 21, 3) := dk_153 (by decide +kernel)
theorem dX12_begin1_61 : decode cX12_begin1 61 = .ok (.aload_n 0, 1) := dk_42 (by decide +kernel)
theorem dX12_begin1_62 : decode cX12_begin1 62 = .ok (.bipush 10, 2) := dk_16 (by decide +kernel)
theorem dX12_begin1_64 : decode cX12_begin1 64 = .ok (.invokevirtual 530, 3) := dk_182 (by decide +kernel)
theorem dX12_begin1_67 : decode cX12_begin1 67 = .ok (.ifCond .ne 19, 3) := dk_154 (by decide +kernel)
theorem dX12_begin1_70 : decode cX12_begin1 70 = .ok (.aload_n 0, 1) := dk_42 (by decide +kernel)
theorem dX12_begin1_71 : decode cX12_begin1 71 = .ok (.bipush 123, 2) := dk_16 (by decide +kernel)
theorem dX12_begin1_73 : decode cX12_begin1 73 = .ok (.invokevirtual 521, 3) := dk_182 (by decide +kernel)
theorem dX12_begin1_76 : decode cX12_begin1 76 = .ok (.ifCond .ne 10, 3) := dk_154 (by decide +kernel)
theorem dX12_begin1_79 : decode cX12_begin1 79 = .ok (.aload_n 0, 1) := dk_42 (by decide +kernel)
theorem dX12_begin1_80 : decode cX12_begin1 80 = .ok (.invokevirtual 573, 3) := dk_182 (by decide +kernel)
theorem dX12_begin1_83 : decode cX12_begin1 83 = .ok (.ifCond .eq 12, 3) := dk_153 (by decide +kernel)
theorem dX12_begin1_86 : decode cX12_begin1 86 = .ok (.aload_n 0, 1) := dk_42 (by decide +kernel)
theorem dX12_begin1_87 : decode cX12_begin1 87 = .ok (.iconst 4, 1) := dk_7 (by decide +kernel)
theorem dX12_begin1_88 : decode cX12_begin1 88 = .ok (.aload_n 0, 1) := dk_42 (by decide +kernel)
theorem dX12_begin1_89 : decode cX12_begin1 89 = .ok (.getfield 488, 3) := dk_180 (by decide +kernel)
theorem dX12_begin1_92 : decode cX12_begin1 92 = .ok (.invokevirtual 518, 3) := dk_182 (by decide +kernel)
theorem dX12_begin1_95 : decode cX12_begin1 95 = .ok (.return_, 1) := dk_177 (by decide +kernel)
theorem dX12_begin1_96 : decode cX12_begin1 96 = .ok (.aload_n 0, 1) := dk_42 (by decide +kernel)
theorem dX12_begin1_97 : decode cX12_begin1 97 = .ok (.dup, 1) := dk_89 (by decide +kernel)
theorem dX12_begin1_98 : decode cX12_begin1 98 = .ok (.getfield 570, 3) := dk_180 (by decide +kernel)
theorem dX12_begin1_101 : decode cX12_begin1 101 = .ok (.iload_n 2, 1) := dk_28 (by decide +kernel)
theorem dX12_begin1_102 : decode cX12_begin1 102 = .ok (.ifCond .eq 7, 3) := dk_153 (by decide +kernel)
theorem dX12_begin1_105 : decode cX12_begin1 105 = .ok (.iconst 1, 1) := dk_4 (by decide +kernel)
theorem dX12_begin1_106 : decode cX12_begin1 106 = .ok (.goto 4, 3) := dk_167 (by decide +kernel)
theorem dX12_begin1_109 : decode cX12_begin1 109 = .ok (.iconst 0, 1) := dk_3 (by decide +kernel)
theorem dX12_begin1_110 : decode cX12_begin1 110 = .ok (.iadd, 1) := dk_96 (by decide +kernel)
theorem dX12_begin1_111 : decode cX12_begin1 111 = .ok (.putfield 570, 3) := dk_181 (by decide +kernel)
theorem dX12_begin1_114 : decode cX12_begin1 114 = .ok (.aload_n 0, 1) := dk_42 (by decide +kernel)
theorem dX12_begin1_115 : decode cX12_begin1 115 = .ok (.getfield 140, 3) := dk_180 (by decide +kernel)
theorem dX12_begin1_118 : decode cX12_begin1 118 = .ok (.aload_n 0, 1) := dk_42 (by decide +kernel)
theorem dX12_begin1_119 : decode cX12_begin1 119 = .ok (.getfield 577, 3) := dk_180 (by decide +kernel)
theorem dX12_begin1_122 : decode cX12_begin1 122 = .ok (.iload_n 1, 1) := dk_27 (by decide +kernel)
theorem dX12_begin1_123 : decode cX12_begin1 123 = .ok (.iastore, 1) := dk_79 (by decide +kernel)
theorem dX12_begin1_124 : decode cX12_begin1 124 = .ok (.aload_n 0, 1) := dk_42 (by decide +kernel)
theorem dX12_begin1_125 : decode cX12_begin1 125 = .ok (.getfield 143, 3) := dk_180 (by decide +kernel)
theorem dX12_begin1_128 : decode cX12_begin1 128 = .ok (.aload_n 0, 1) := dk_42 (by decide +kernel)
theorem dX12_begin1_129 : decode cX12_begin1 129 = .ok (.getfield 577, 3) := dk_180 (by decide +kernel)
theorem dX12_begin1_132 : decode cX12_begin1 132 = .ok (.iconst 0, 1) := dk_3 (by decide +kernel)
theorem dX12_begin1_133 : decode cX12_begin1 133 = .ok (.iastore, 1) := dk_79 (by decide +kernel)
theorem dX12_begin1_134 : decode cX12_begin1 134 = .ok (.aload_n 0, 1) := dk_42 (by decide +kernel)
theorem dX12_begin1_135 : decode cX12_begin1 135 = .ok (.getfield 146, 3) := dk_180 (by decide +kernel)
theorem dX12_begin1_138 : decode cX12_begin1 138 = .ok (.aload_n 0, 1) := dk_42 (by decide +kernel)
theorem dX12_begin1_139 : decode cX12_begin1 139 = .ok (.getfield 577, 3) := dk_180 (by decide +kernel)
theorem dX12_begin1_142 : decode cX12_begin1 142 = .ok (.iconst (-1), 1) := dk_2 (by decide +kernel)
theorem dX12_begin1_143 : decode cX12_begin1 143 = .ok (.iastore, 1) := dk_79 (by decide +kernel)
theorem dX12_begin1_144 : decode cX12_begin1 144 = .ok (.aload_n 0, 1) := dk_42 (by decide +kernel)
theorem dX12_begin1_145 : decode cX12_begin1 145 = .ok (.getfield 149, 3) := dk_180 (by decide +kernel)
theorem dX12_begin1_148 : decode cX12_begin1 148 = .ok (.aload_n 0, 1) := dk_42 (by decide +kernel)
theorem dX12_begin1_149 : decode cX12_begin1 149 = .ok (.getfield 577, 3) := dk_180 (by decide +kernel)
theorem dX12_begin1_152 : decode cX12_begin1 152 = .ok (.iconst (-1), 1) := dk_2 (by decide +kernel)
theorem dX12_begin1_153 : decode cX12_begin1 153 = .ok (.iastore, 1) := dk_79 (by decide +kernel)
theorem dX12_begin1_154 : decode cX12_begin1 154 = .ok (.aload_n 0, 1) := dk_42 (by decide +kernel)
theorem dX12_begin1_155 : decode cX12_begin1 155 = .ok (.getfield 164, 3) := dk_180 (by decide +kernel)
theorem dX12_begin1_158 : decode cX12_begin1 158 = .ok (.aload_n 0, 1) := dk_42 (by decide +kernel)
theorem dX12_begin1_159 : decode cX12_begin1 159 = .ok (.getfield 577, 3) := dk_180 (by decide +kernel)
theorem dX12_begin1_162 : decode cX12_begin1 162 = .ok (.aload_n 0, 1) := dk_42 (by decide +kernel)
theorem dX12_begin1_163 : decode cX12_begin1 163 = .ok (.getfield 488, 3) := dk_180 (by decide +kernel)
theorem dX12_begin1_166 : decode cX12_begin1 166 = .ok (.iastore, 1) := dk_79 (by decide +kernel)
theorem dX12_begin1_167 : decode cX12_begin1 167 = .ok (.aload_n 0, 1) := dk_42 (by decide +kernel)
theorem dX12_begin1_168 : decode cX12_begin1 168 = .ok (.getfield 167, 3) := dk_180 (by decide +kernel)
theorem dX12_begin1_171 : decode cX12_begin1 171 = .ok (.aload_n 0, 1) := dk_42 (by decide +kernel)
theorem dX12_begin1_172 : decode cX12_begin1 172 = .ok (.getfield 577, 3) := dk_180 (by decide +kernel)
theorem dX12_begin1_175 : decode cX12_begin1 175 = .ok (.iload_n 2, 1) := dk_28 (by decide +kernel)
theorem dX12_begin1_176 : decode cX12_begin1 176 = .ok (.ifCond .eq 7, 3) := dk_153 (by decide +kernel)
theorem dX12_begin1_179 : decode cX12_begin1 179 = .ok (.iconst 1, 1) := dk_4 (by decide +kernel)
theorem dX12_begin1_180 : decode cX12_begin1 180 = .ok (.goto 4, 3) := dk_167 (by decide +kernel)
theorem dX12_begin1_183 : decode cX12_begin1 183 = .ok (.iconst 0, 1) := dk_3 (by decide +kernel)
theorem dX12_begin1_184 : decode cX12_begin1 184 = .ok (.iastore, 1) := dk_79 (by decide +kernel)
theorem dX12_begin1_185 : decode cX12_begin1 185 = .ok (.aload_n 0, 1) := dk_42 (by decide +kernel)
theorem dX12_begin1_186 : decode cX12_begin1 186 = .ok (.dup, 1) := dk_89 (by decide +kernel)
theorem dX12_begin1_187 : decode cX12_begin1 187 = .ok (.getfield 577, 3) := dk_180 (by decide +kernel)
theorem dX12_begin1_190 : decode cX12_begin1 190 = .ok (.iconst 1, 1) := dk_4 (by decide +kernel)
theorem dX12_begin1_191 : decode cX12_begin1 191 = .ok (.iadd, 1) := dk_96 (by decide +kernel)
theorem dX12_begin1_192 : decode cX12_begin1 192 = .ok (.putfield 577, 3) := dk_181 (by decide +kernel)
theorem dX12_begin1_195 : decode cX12_begin1 195 = .ok (.return_, 1) := dk_177 (by decide +kernel)
def wsRX12_begin1 : List Cond := .code yX12_begin1 cX12_begin1 4 none :: ([.fieldLink RX12 515 "OptimaWorksModel" "stop" "I", .fieldLink RX12 570 "OptimaWorksModel" "within" "I", .fieldLink RX12 140 "OptimaWorksModel" "what" "[I", .fieldLink RX12 577 "OptimaWorksModel" "deep" "I", .fieldLink RX12 143 "OptimaWorksModel" "step" "[I", .fieldLink RX12 146 "OptimaWorksModel" "got1" "[I", .fieldLink RX12 149 "OptimaWorksModel" "got2" "[I", .fieldLink RX12 164 "OptimaWorksModel" "begins" "[I", .fieldLink RX12 488 "OptimaWorksModel" "from" "I", .fieldLink RX12 167 "OptimaWorksModel" "extra" "[I"] ++ wsX120 ++ (wsV RX12 530 RX12 yX12_isKey wsRX12_isKey) ++ (wsV RX12 573 RX12 yX12_canBegin wsRX12_canBegin) ++ (wsV RX12 518 RX12 yX12_faultAt wsRX12_faultAt) ++ (wsV RX12 521 RX12 yX12_isSign wsRX12_isSign))
theorem iwsRX12_begin1_in12 : ∀ w ∈ wsX120, w ∈ wsRX12_begin1 := fun _ h => List.mem_cons_of_mem _ (List.mem_append_left _ (List.mem_append_left _ (List.mem_append_left _ (List.mem_append_left _ (List.mem_append_right _ h)))))
theorem gwsRX12_begin1_0 : GoodIn wsRX12_begin1 (wsV RX12 530 RX12 yX12_isKey wsRX12_isKey) := goodIn_sub (fun _ h => List.mem_cons_of_mem _ (List.mem_append_left _ (List.mem_append_left _ (List.mem_append_left _ (List.mem_append_right _ h))))) (gdV (by decide +kernel) gdwsRX12_isKey)
theorem gwsRX12_begin1_1 : GoodIn wsRX12_begin1 (wsV RX12 573 RX12 yX12_canBegin wsRX12_canBegin) := goodIn_sub (fun _ h => List.mem_cons_of_mem _ (List.mem_append_left _ (List.mem_append_left _ (List.mem_append_right _ h)))) (gdV (by decide +kernel) gdwsRX12_canBegin)
theorem gwsRX12_begin1_2 : GoodIn wsRX12_begin1 (wsV RX12 518 RX12 yX12_faultAt wsRX12_faultAt) := goodIn_sub (fun _ h => List.mem_cons_of_mem _ (List.mem_append_left _ (List.mem_append_right _ h))) (gdV (by decide +kernel) gdwsRX12_faultAt)
theorem gwsRX12_begin1_3 : GoodIn wsRX12_begin1 (wsV RX12 521 RX12 yX12_isSign wsRX12_isSign) := goodIn_sub (fun _ h => List.mem_cons_of_mem _ (List.mem_append_right _ h)) (gdV (by decide +kernel) gdwsRX12_isSign)
theorem gdwsRX12_begin1 : wsRX12_begin1.all goodWord = true := gdC rfl (gdA (gdA (gdA (gdA (gdA (by decide +kernel : ([.fieldLink RX12 515 "OptimaWorksModel" "stop" "I", .fieldLink RX12 570 "OptimaWorksModel" "within" "I", .fieldLink RX12 140 "OptimaWorksModel" "what" "[I", .fieldLink RX12 577 "OptimaWorksModel" "deep" "I", .fieldLink RX12 143 "OptimaWorksModel" "step" "[I", .fieldLink RX12 146 "OptimaWorksModel" "got1" "[I", .fieldLink RX12 149 "OptimaWorksModel" "got2" "[I", .fieldLink RX12 164 "OptimaWorksModel" "begins" "[I", .fieldLink RX12 488 "OptimaWorksModel" "from" "I", .fieldLink RX12 167 "OptimaWorksModel" "extra" "[I"] : List Cond).all goodWord = true) gdwsX120) (gdV (by decide +kernel) gdwsRX12_isKey)) (gdV (by decide +kernel) gdwsRX12_canBegin)) (gdV (by decide +kernel) gdwsRX12_faultAt)) (gdV (by decide +kernel) gdwsRX12_isSign))
set_option maxHeartbeats 4000000 in
set_option maxRecDepth 100000 in
/-- begin1(r) -/
theorem r_X12_begin1 (l : Launch) (dC : Nat → ClassId) (dI : Nat → Nat → Nat) (a : Nat → Nat) (k : Nat → ClassId) (h0 : Nat) (vi : Nat → Int32) (vj : Nat → Int64) (vF : Nat → Nat → Int32) (vG : Nat → Nat → Int64) (rv : Int32) (tp : Nat) (an : Nat) (fn : Nat) (nm : Nat) (se : Nat) (pa : Nat) (va : Nat) (bd : Nat) (dB : Nat) (wi : Nat) (hTp : vi 16 = nI tp) (htp : tp ≤ 4000) (ha0 : vi 17 = nI an) (hfr : vi 19 = nI fn) (hLx : LxO tp fn an (vi 18) (vi 20)) (hst0 : 0 ≤ (vi 21).toInt) (hnm : vi 25 = nI nm) (hnm40 : nm ≤ 40) (hno : NmO (vF 11) (vF 12) nm) (hNk : NkO (vF 10) (vF 13) nm se pa va) (hbd : vi 30 = nI bd) (hbd60 : bd ≤ 60) (hbo : NmO (vF 14) (vF 15) 60) (hdB : vi 74 = nI dB) (hdB9 : dB < 120) (hwi : vi 75 = nI wi) (hwi9 : wi ≤ 25) (sz : Nat) : Met l yX12_begin1 wsRX12_begin1 ({ frames := 3, cells := 0, slots := 0, locals := 68 }) (va_Pc [.ref h0, .int rv] (fun U => U.heap.size = sz ∧ va_P (dC, dI) vwCl (WR a k h0 vi vj vF vG) U.heap ∧ va_K (dC, dI) vwCl (tX12 k) U ∧ va_D (fun _ => True) (WR a k h0 vi vj vF vG))) (va_Qv (fun (u : (Int32) × (Int32) × (Nat → Int32) × (Nat → Int32) × (Nat → Int32) × (Nat → Int32) × (Nat → Int32) × (Nat → Int32) × (Nat) × (Nat)) => (0 ≤ ((u.1)).toInt) ∧ (0 < ((u.1)).toInt ∨ ((u.1) = vi 21 ∧ BgO rv (vi 18) (vi 20) (u.2.2.1) (u.2.2.2.1) (u.2.2.2.2.1) (u.2.2.2.2.2.1) (u.2.2.2.2.2.2.2.1) dB wi (u.2.2.2.2.2.2.2.2.1) (u.2.2.2.2.2.2.2.2.2))) ∧ (FrmO dB (vF 39) (vF 40) (vF 41) (vF 42) (vF 48) (u.2.2.1) (u.2.2.2.1) (u.2.2.2.2.1) (u.2.2.2.2.2.1) (u.2.2.2.2.2.2.2.1)) ∧ ((u.2.2.2.2.2.2.2.2.1) ≤ dB + 1)) (fun (u : (Int32) × (Int32) × (Nat → Int32) × (Nat → Int32) × (Nat → Int32) × (Nat → Int32) × (Nat → Int32) × (Nat → Int32) × (Nat) × (Nat)) t => va_P (dC, dI) vwCl (WR a k h0 (fT (fT (fT (fT vi 75 (nI (u.2.2.2.2.2.2.2.2.2))) 74 (nI (u.2.2.2.2.2.2.2.2.1))) 21 (u.1)) 22 (u.2.1)) vj (fT (fT (fT (fT (fT (fT vF 39 (u.2.2.1)) 40 (u.2.2.2.1)) 41 (u.2.2.2.2.1)) 42 (u.2.2.2.2.2.1)) 47 (u.2.2.2.2.2.2.1)) 48 (u.2.2.2.2.2.2.2.1)) vG) t.heap ∧ va_D (va_A (WR a k h0 vi vj vF vG) sz) (WR a k h0 (fT (fT (fT (fT vi 75 (nI (u.2.2.2.2.2.2.2.2.2))) 74 (nI (u.2.2.2.2.2.2.2.2.1))) 21 (u.1)) 22 (u.2.1)) vj (fT (fT (fT (fT (fT (fT vF 39 (u.2.2.1)) 40 (u.2.2.2.1)) 41 (u.2.2.2.2.1)) 42 (u.2.2.2.2.2.1)) 47 (u.2.2.2.2.2.2.1)) 48 (u.2.2.2.2.2.2.2.1)) vG)) (va_A (WR a k h0 vi vj vF vG) sz)) 0 0 (va_A (WR a k h0 vi vj vF vG) sz) := by
  refine Met.ofW (cc := cX12_begin1) (maxL := 4) (ret := none) (by decide) rfl ?_
  intro p e s m args below meth c s₁ B hml hv
  obtain ⟨rfl, hsz, hP, hK, hD0⟩ := hv
  have hx := B.exec
  have hb := B.bytes
  have hr := B.returns
  have hts := atoms_spec (ws := wsRX12_begin1) B.pre
  have hown : s.vm.findClass RX12 = some m.cls := findClass_of_methodNamed B.named
  have hlocks := B.notSynchronized
  subst hsz
  have hD := hD0.self (sz := s.heap.size)
  generalize hAe : va_A (WR a k h0 vi vj vF vG) s.heap.size = A at hD ⊢
  have hA : ∀ q : Nat, s.heap.size ≤ q → A q := fun q h => by rw [← hAe]; exact Or.inr h
  have hS : va_S A s.heap s.heap [] := va_S.rf
  have hl := lv_entry ([.ref h0, .int rv]) (n := 4) (Nat.le_of_ble_eq_true rfl)
  rw [lg_entry_eq]
  generalize (lg_sl ([.ref h0, .int rv]) ++ List.replicate (4 - (lg_sl ([.ref h0, .int rv])).length) Slot.unset).toArray = ls at hl ⊢
  have hl : lv_has ls 4 [(0, .ref h0), (1, .int rv)] := hl
  have hfa := hLx.1
  have han := hLx.2.1
  have han4 : an ≤ 4000 := by omega
  refine lv_aload_n hx hb dX12_begin1_0 rfl (lv_at hl 0 rfl) ?_
  refine va_get (D := (dC, dI)) (ci := 12) (v := .int (vi 21)) (C := RX12) (T := TX12) (N := 163) (fs := fM (vS a vi vj)) hx hb hts iwsRX12_begin1_in12 hown hK hP 0 rfl rfl 21 (by decide) (hts (.fieldLink RX12 515 "OptimaWorksModel" "stop" "I") (by decide +kernel)) (fun _ h9 => h9) rfl dX12_begin1_1 ?_
  refine lv_if_le (tgt := 8) hx hb dX12_begin1_4 (by decide) (fun c_4 => ?_) (fun c_4 => ?_)
  · have t_4 : ((vi 21)).toInt ≤ 0 := toI_le c_4 rfl (by decide)
    refine lv_iload_n hx hb dX12_begin1_8 rfl (lv_at hl 1 rfl) ?_
    refine lv_iconst (v := 3) hx hb dX12_begin1_9 (by decide) ?_
    refine W.cut (pc := 27) (fun H locs ls stk => ∃ (zq : Int32), ((zq = 1 ∧ zq = 1) ∨ (zq = 0 ∧ rv = 3 ∧ ¬ (vi 18 = 2 ∧ vi 20 = 10))) ∧  stk = [.int zq] ∧ va_P (dC, dI) vwCl (WR a k h0 vi vj vF vG) H ∧ va_D A (WR a k h0 vi vj vF vG) ∧ va_S A s.heap H locs ∧ lv_has ls 4 [(0, .ref h0), (1, .int rv)]) (fun join1 => ?_) ?_
    · refine lv_icmp_ne (tgt := 22) hx hb dX12_begin1_10 (by decide) (fun c_10 => ?_) (fun c_10 => ?_)
      · have t_10 : (rv).toInt ≠ 3 := toI_ne c_10 rfl (by decide)
        refine lv_iconst (v := 1) hx hb dX12_begin1_22 (by decide) ?_
        refine lv_goto (tgt := 27) hx hb dX12_begin1_23 (by decide) ?_
        have hl : lv_has _ _ ([(0, .ref h0), (1, .int rv)]) := lv_sub hl [0, 1] rfl
        exact join1 _ _ _ _ ⟨1, Or.inl ⟨rfl, rfl⟩, rfl, hP, hD, hS, hl⟩
      · have t_10 : (rv).toInt = 3 := toI_nne c_10 rfl (by decide)
        refine lv_aload_n hx hb dX12_begin1_13 rfl (lv_at hl 0 rfl) ?_
        refine lv_bipush (v := 10) hx hb dX12_begin1_14 (by decide) ?_
        have hFc := allFree hD hS hA
        refine va_calli (va_runV (As := [.int 10]) (rest := []) ⟨hx, hb, hml, hown, hts⟩ (r_X12_isKey l dC dI a k h0 vi vj vF vG 10 s.heap.size) (cwV 1 hts gwsRX12_begin1_0 rfl rfl rfl hd_yX12_isKey_RX12 (by decide +kernel)) (fz_pre (va_recv hK hP (ci := 12) (q0 := 0) rfl rfl) hP hK hD) rfl rfl hl.1 rfl (lv_room (Nat.le_of_ble_eq_true rfl)) dX12_begin1_16 (by decide +kernel)) hS (fun q _ h => hFc q h) hFc (fun r16 u t9_ H locs ht hvm hw9 hB9 hz1 hk1 hS => ?_)
        have hP : va_P (dC, dI) vwCl (WR a k h0 vi vj vF vG) H := fz_P ht hB9.1
        have hD : va_D A (WR a k h0 vi vj vF vG) := hB9.2.weaken (fun _ q _ h => hFc q.1 h)
        rcases hw9 with ⟨rfl, f16_0, f16_1⟩ | ⟨rfl, f16_0⟩
        · have f16_0 : (vi 18).toInt = 2 := f16_0
          have f16_1 : (vi 20) = 10 := f16_1
          refine lv_if_eq (tgt := 26) hx hb dX12_begin1_19 (by decide) (fun c9 => absurd c9 (by decide)) (fun _ => ?_)
          refine lv_iconst (v := 1) hx hb dX12_begin1_22 (by decide) ?_
          refine lv_goto (tgt := 27) hx hb dX12_begin1_23 (by decide) ?_
          have hl : lv_has _ _ ([(0, .ref h0), (1, .int rv)]) := lv_sub hl [0, 1] rfl
          exact join1 _ _ _ _ ⟨1, Or.inl ⟨rfl, rfl⟩, rfl, hP, hD, hS, hl⟩
        · have f16_0 : ¬ ((vi 18).toInt = 2 ∧ (vi 20) = 10) := f16_0
          refine lv_if_eq (tgt := 26) hx hb dX12_begin1_19 (by decide) (fun _ => ?_) (fun c9 => absurd (by decide) c9)
          refine lv_iconst (v := 0) hx hb dX12_begin1_26 (by decide) ?_
          have hl : lv_has _ _ ([(0, .ref h0), (1, .int rv)]) := lv_sub hl [0, 1] rfl
          exact join1 _ _ _ _ ⟨0, Or.inr ⟨rfl, c_10, fun h9 => f16_0 ⟨by rw [h9.1]; decide, h9.2⟩⟩, rfl, hP, hD, hS, hl⟩
    · rintro H locs ls stk ⟨zq, hzq, rfl, hP, hD, hS, hl⟩
      refine lv_istore_n hx hb dX12_begin1_27 rfl hl (by decide) rfl (fun ls (hl : lv_has ls _ ([(2, .int zq), (0, .ref h0), (1, .int rv)])) => ?_)
      refine lv_iload_n hx hb dX12_begin1_28 rfl (lv_at hl 0 rfl) ?_
      refine lv_if_eq (tgt := 96) hx hb dX12_begin1_29 (by decide) (fun c_29 => ?_) (fun c_29 => ?_)
      · have t_29 : (zq).toInt = 0 := toI_eq c_29 rfl (by decide)
        refine lv_aload_n hx hb dX12_begin1_96 rfl (lv_at hl 1 rfl) ?_
        refine lv_dup hx hb dX12_begin1_97 rfl ?_
        refine va_get (D := (dC, dI)) (ci := 12) (v := .int (vi 75)) (C := RX12) (T := TX12) (N := 163) (fs := fM (vS a vi vj)) hx hb hts iwsRX12_begin1_in12 hown hK hP 0 rfl rfl 75 (by decide) (hts (.fieldLink RX12 570 "OptimaWorksModel" "within" "I") (by decide +kernel)) (fun _ h9 => h9) rfl dX12_begin1_98 ?_
        refine lv_topi (fun y1 hy1 => ?_)
        obtain rfl : (nI wi) = y1 := (hy1.trans (hwi)).symm
        refine lv_iload_n hx hb dX12_begin1_101 rfl (lv_at hl 0 rfl) ?_
        refine lv_if_eq (tgt := 109) hx hb dX12_begin1_102 (by decide) (fun c_102 => ?_) (fun c9 => False.elim (by have t9 : ¬ (zq).toInt = 0 := toI_neq c9 rfl (by decide); omega))
        have t_102 : (zq).toInt = 0 := toI_eq c_102 rfl (by decide)
        refine lv_iconst (v := 0) hx hb dX12_begin1_109 (by decide) ?_
        refine lv_iadd hx hb dX12_begin1_110 ?_
        refine lv_topi (fun y2 hy2 => ?_)
        obtain rfl : (nI (wi + 0)) = y2 := (hy2.trans (nI_add wi 0)).symm
        refine va_put (D := (dC, dI)) (ci := 12) (v := .int (nI (wi + 0))) (ty := .int) (C := RX12) (T := TX12) (N := 163) (fs := fM (vS a vi vj)) hx hb hts iwsRX12_begin1_in12 tyX12 tyX12_ok nmX12 hown hK hP hD hS 0 rfl rfl 75 (by decide) (hts (.fieldLink RX12 570 "OptimaWorksModel" "within" "I") (by decide +kernel)) (fun _ h9 => h9) rfl (by decide +kernel) rfl rfl (Nat.le_of_ble_eq_true rfl) dX12_begin1_111 (fun H locs hP hD hS => ?_)
        have hP : va_P (dC, dI) vwCl (WR a k h0 (fT vi 75 (nI (wi + 0))) vj vF vG) H := by rw [← WR_i 75 _ rfl]; exact hP
        have hD : va_D A (WR a k h0 (fT vi 75 (nI (wi + 0))) vj vF vG) := by rw [← WR_i 75 _ rfl]; exact hD
        refine lv_aload_n hx hb dX12_begin1_114 rfl (lv_at hl 1 rfl) ?_
        refine va_get (D := (dC, dI)) (ci := 12) (v := .ref (a 39)) (C := RX12) (T := TX12) (N := 163) (fs := fM (vS a (fT vi 75 (nI (wi + 0))) vj)) hx hb hts iwsRX12_begin1_in12 hown hK hP 0 rfl rfl 64 (by decide) (hts (.fieldLink RX12 140 "OptimaWorksModel" "what" "[I") (by decide +kernel)) (fun _ h9 => h9) rfl dX12_begin1_115 ?_
        refine lv_aload_n hx hb dX12_begin1_118 rfl (lv_at hl 1 rfl) ?_
        refine va_get (D := (dC, dI)) (ci := 12) (v := .int (vi 74)) (C := RX12) (T := TX12) (N := 163) (fs := fM (vS a (fT vi 75 (nI (wi + 0))) vj)) hx hb hts iwsRX12_begin1_in12 hown hK hP 0 rfl rfl 74 (by decide) (hts (.fieldLink RX12 577 "OptimaWorksModel" "deep" "I") (by decide +kernel)) (fun _ h9 => h9) rfl dX12_begin1_119 ?_
        refine lv_topi (fun y3 hy3 => ?_)
        obtain rfl : (nI dB) = y3 := (hy3.trans (hdB)).symm
        refine lv_iload_n hx hb dX12_begin1_122 rfl (lv_at hl 2 rfl) ?_
        refine va_iast (cA := k 39) (n := 120) (f := (vF 39)) hx hb hK hP hD hS 40 39 (WR_get 39 (by decide)) (TR_get 39 (by decide)) (vp_in_nI (show dB < 120 by omega) (by omega)) dX12_begin1_123 (fun H locs hP hD hS => ?_)
        have hP : va_P (dC, dI) vwCl (WR a k h0 (fT vi 75 (nI (wi + 0))) vj (fT vF 39 (upd (vF 39) ((nI dB)).toNatClampNeg rv)) vG) H := by rw [← WR_F 39 (by decide) _ rfl]; exact hP
        have hD : va_D A (WR a k h0 (fT vi 75 (nI (wi + 0))) vj (fT vF 39 (upd (vF 39) ((nI dB)).toNatClampNeg rv)) vG) := by rw [← WR_F 39 (by decide) _ rfl]; exact hD
        refine lv_aload_n hx hb dX12_begin1_124 rfl (lv_at hl 1 rfl) ?_
        refine va_get (D := (dC, dI)) (ci := 12) (v := .ref (a 40)) (C := RX12) (T := TX12) (N := 163) (fs := fM (vS a (fT vi 75 (nI (wi + 0))) vj)) hx hb hts iwsRX12_begin1_in12 hown hK hP 0 rfl rfl 65 (by decide) (hts (.fieldLink RX12 143 "OptimaWorksModel" "step" "[I") (by decide +kernel)) (fun _ h9 => h9) rfl dX12_begin1_125 ?_
        refine lv_aload_n hx hb dX12_begin1_128 rfl (lv_at hl 1 rfl) ?_
        refine va_get (D := (dC, dI)) (ci := 12) (v := .int (vi 74)) (C := RX12) (T := TX12) (N := 163) (fs := fM (vS a (fT vi 75 (nI (wi + 0))) vj)) hx hb hts iwsRX12_begin1_in12 hown hK hP 0 rfl rfl 74 (by decide) (hts (.fieldLink RX12 577 "OptimaWorksModel" "deep" "I") (by decide +kernel)) (fun _ h9 => h9) rfl dX12_begin1_129 ?_
        refine lv_topi (fun y4 hy4 => ?_)
        obtain rfl : (nI dB) = y4 := (hy4.trans (hdB)).symm
        refine lv_iconst (v := 0) hx hb dX12_begin1_132 (by decide) ?_
        refine va_iast (cA := k 40) (n := 120) (f := (vF 40)) hx hb hK hP hD hS 41 40 (WR_get 40 (by decide)) (TR_get 40 (by decide)) (vp_in_nI (show dB < 120 by omega) (by omega)) dX12_begin1_133 (fun H locs hP hD hS => ?_)
        have hP : va_P (dC, dI) vwCl (WR a k h0 (fT vi 75 (nI (wi + 0))) vj (fT (fT vF 39 (upd (vF 39) ((nI dB)).toNatClampNeg rv)) 40 (upd (vF 40) ((nI dB)).toNatClampNeg 0)) vG) H := by rw [← WR_F 40 (by decide) _ rfl]; exact hP
        have hD : va_D A (WR a k h0 (fT vi 75 (nI (wi + 0))) vj (fT (fT vF 39 (upd (vF 39) ((nI dB)).toNatClampNeg rv)) 40 (upd (vF 40) ((nI dB)).toNatClampNeg 0)) vG) := by rw [← WR_F 40 (by decide) _ rfl]; exact hD
        refine lv_aload_n hx hb dX12_begin1_134 rfl (lv_at hl 1 rfl) ?_
        refine va_get (D := (dC, dI)) (ci := 12) (v := .ref (a 41)) (C := RX12) (T := TX12) (N := 163) (fs := fM (vS a (fT vi 75 (nI (wi + 0))) vj)) hx hb hts iwsRX12_begin1_in12 hown hK hP 0 rfl rfl 66 (by decide) (hts (.fieldLink RX12 146 "OptimaWorksModel" "got1" "[I") (by decide +kernel)) (fun _ h9 => h9) rfl dX12_begin1_135 ?_
        refine lv_aload_n hx hb dX12_begin1_138 rfl (lv_at hl 1 rfl) ?_
        refine va_get (D := (dC, dI)) (ci := 12) (v := .int (vi 74)) (C := RX12) (T := TX12) (N := 163) (fs := fM (vS a (fT vi 75 (nI (wi + 0))) vj)) hx hb hts iwsRX12_begin1_in12 hown hK hP 0 rfl rfl 74 (by decide) (hts (.fieldLink RX12 577 "OptimaWorksModel" "deep" "I") (by decide +kernel)) (fun _ h9 => h9) rfl dX12_begin1_139 ?_
        refine lv_topi (fun y5 hy5 => ?_)
        obtain rfl : (nI dB) = y5 := (hy5.trans (hdB)).symm
        refine lv_iconst (v := (-1)) hx hb dX12_begin1_142 (by decide) ?_
        refine va_iast (cA := k 41) (n := 120) (f := (vF 41)) hx hb hK hP hD hS 42 41 (WR_get 41 (by decide)) (TR_get 41 (by decide)) (vp_in_nI (show dB < 120 by omega) (by omega)) dX12_begin1_143 (fun H locs hP hD hS => ?_)
        have hP : va_P (dC, dI) vwCl (WR a k h0 (fT vi 75 (nI (wi + 0))) vj (fT (fT (fT vF 39 (upd (vF 39) ((nI dB)).toNatClampNeg rv)) 40 (upd (vF 40) ((nI dB)).toNatClampNeg 0)) 41 (upd (vF 41) ((nI dB)).toNatClampNeg (-1))) vG) H := by rw [← WR_F 41 (by decide) _ rfl]; exact hP
        have hD : va_D A (WR a k h0 (fT vi 75 (nI (wi + 0))) vj (fT (fT (fT vF 39 (upd (vF 39) ((nI dB)).toNatClampNeg rv)) 40 (upd (vF 40) ((nI dB)).toNatClampNeg 0)) 41 (upd (vF 41) ((nI dB)).toNatClampNeg (-1))) vG) := by rw [← WR_F 41 (by decide) _ rfl]; exact hD
        refine lv_aload_n hx hb dX12_begin1_144 rfl (lv_at hl 1 rfl) ?_
        refine va_get (D := (dC, dI)) (ci := 12) (v := .ref (a 42)) (C := RX12) (T := TX12) (N := 163) (fs := fM (vS a (fT vi 75 (nI (wi + 0))) vj)) hx hb hts iwsRX12_begin1_in12 hown hK hP 0 rfl rfl 67 (by decide) (hts (.fieldLink RX12 149 "OptimaWorksModel" "got2" "[I") (by decide +kernel)) (fun _ h9 => h9) rfl dX12_begin1_145 ?_
        refine lv_aload_n hx hb dX12_begin1_148 rfl (lv_at hl 1 rfl) ?_
        refine va_get (D := (dC, dI)) (ci := 12) (v := .int (vi 74)) (C := RX12) (T := TX12) (N := 163) (fs := fM (vS a (fT vi 75 (nI (wi + 0))) vj)) hx hb hts iwsRX12_begin1_in12 hown hK hP 0 rfl rfl 74 (by decide) (hts (.fieldLink RX12 577 "OptimaWorksModel" "deep" "I") (by decide +kernel)) (fun _ h9 => h9) rfl dX12_begin1_149 ?_
        refine lv_topi (fun y6 hy6 => ?_)
        obtain rfl : (nI dB) = y6 := (hy6.trans (hdB)).symm
        refine lv_iconst (v := (-1)) hx hb dX12_begin1_152 (by decide) ?_
        refine va_iast (cA := k 42) (n := 120) (f := (vF 42)) hx hb hK hP hD hS 43 42 (WR_get 42 (by decide)) (TR_get 42 (by decide)) (vp_in_nI (show dB < 120 by omega) (by omega)) dX12_begin1_153 (fun H locs hP hD hS => ?_)
        have hP : va_P (dC, dI) vwCl (WR a k h0 (fT vi 75 (nI (wi + 0))) vj (fT (fT (fT (fT vF 39 (upd (vF 39) ((nI dB)).toNatClampNeg rv)) 40 (upd (vF 40) ((nI dB)).toNatClampNeg 0)) 41 (upd (vF 41) ((nI dB)).toNatClampNeg (-1))) 42 (upd (vF 42) ((nI dB)).toNatClampNeg (-1))) vG) H := by rw [← WR_F 42 (by decide) _ rfl]; exact hP
        have hD : va_D A (WR a k h0 (fT vi 75 (nI (wi + 0))) vj (fT (fT (fT (fT vF 39 (upd (vF 39) ((nI dB)).toNatClampNeg rv)) 40 (upd (vF 40) ((nI dB)).toNatClampNeg 0)) 41 (upd (vF 41) ((nI dB)).toNatClampNeg (-1))) 42 (upd (vF 42) ((nI dB)).toNatClampNeg (-1))) vG) := by rw [← WR_F 42 (by decide) _ rfl]; exact hD
        refine lv_aload_n hx hb dX12_begin1_154 rfl (lv_at hl 1 rfl) ?_
        refine va_get (D := (dC, dI)) (ci := 12) (v := .ref (a 47)) (C := RX12) (T := TX12) (N := 163) (fs := fM (vS a (fT vi 75 (nI (wi + 0))) vj)) hx hb hts iwsRX12_begin1_in12 hown hK hP 0 rfl rfl 72 (by decide) (hts (.fieldLink RX12 164 "OptimaWorksModel" "begins" "[I") (by decide +kernel)) (fun _ h9 => h9) rfl dX12_begin1_155 ?_
        refine lv_aload_n hx hb dX12_begin1_158 rfl (lv_at hl 1 rfl) ?_
        refine va_get (D := (dC, dI)) (ci := 12) (v := .int (vi 74)) (C := RX12) (T := TX12) (N := 163) (fs := fM (vS a (fT vi 75 (nI (wi + 0))) vj)) hx hb hts iwsRX12_begin1_in12 hown hK hP 0 rfl rfl 74 (by decide) (hts (.fieldLink RX12 577 "OptimaWorksModel" "deep" "I") (by decide +kernel)) (fun _ h9 => h9) rfl dX12_begin1_159 ?_
        refine lv_topi (fun y7 hy7 => ?_)
        obtain rfl : (nI dB) = y7 := (hy7.trans (hdB)).symm
        refine lv_aload_n hx hb dX12_begin1_162 rfl (lv_at hl 1 rfl) ?_
        refine va_get (D := (dC, dI)) (ci := 12) (v := .int (vi 19)) (C := RX12) (T := TX12) (N := 163) (fs := fM (vS a (fT vi 75 (nI (wi + 0))) vj)) hx hb hts iwsRX12_begin1_in12 hown hK hP 0 rfl rfl 19 (by decide) (hts (.fieldLink RX12 488 "OptimaWorksModel" "from" "I") (by decide +kernel)) (fun _ h9 => h9) rfl dX12_begin1_163 ?_
        refine lv_topi (fun y8 hy8 => ?_)
        obtain rfl : (nI fn) = y8 := (hy8.trans (hfr)).symm
        refine va_iast (cA := k 47) (n := 120) (f := (vF 47)) hx hb hK hP hD hS 48 47 (WR_get 47 (by decide)) (TR_get 47 (by decide)) (vp_in_nI (show dB < 120 by omega) (by omega)) dX12_begin1_166 (fun H locs hP hD hS => ?_)
        have hP : va_P (dC, dI) vwCl (WR a k h0 (fT vi 75 (nI (wi + 0))) vj (fT (fT (fT (fT (fT vF 39 (upd (vF 39) ((nI dB)).toNatClampNeg rv)) 40 (upd (vF 40) ((nI dB)).toNatClampNeg 0)) 41 (upd (vF 41) ((nI dB)).toNatClampNeg (-1))) 42 (upd (vF 42) ((nI dB)).toNatClampNeg (-1))) 47 (upd (vF 47) ((nI dB)).toNatClampNeg (nI fn))) vG) H := by rw [← WR_F 47 (by decide) _ rfl]; exact hP
        have hD : va_D A (WR a k h0 (fT vi 75 (nI (wi + 0))) vj (fT (fT (fT (fT (fT vF 39 (upd (vF 39) ((nI dB)).toNatClampNeg rv)) 40 (upd (vF 40) ((nI dB)).toNatClampNeg 0)) 41 (upd (vF 41) ((nI dB)).toNatClampNeg (-1))) 42 (upd (vF 42) ((nI dB)).toNatClampNeg (-1))) 47 (upd (vF 47) ((nI dB)).toNatClampNeg (nI fn))) vG) := by rw [← WR_F 47 (by decide) _ rfl]; exact hD
        refine lv_aload_n hx hb dX12_begin1_167 rfl (lv_at hl 1 rfl) ?_
        refine va_get (D := (dC, dI)) (ci := 12) (v := .ref (a 48)) (C := RX12) (T := TX12) (N := 163) (fs := fM (vS a (fT vi 75 (nI (wi + 0))) vj)) hx hb hts iwsRX12_begin1_in12 hown hK hP 0 rfl rfl 73 (by decide) (hts (.fieldLink RX12 167 "OptimaWorksModel" "extra" "[I") (by decide +kernel)) (fun _ h9 => h9) rfl dX12_begin1_168 ?_
        refine lv_aload_n hx hb dX12_begin1_171 rfl (lv_at hl 1 rfl) ?_
        refine va_get (D := (dC, dI)) (ci := 12) (v := .int (vi 74)) (C := RX12) (T := TX12) (N := 163) (fs := fM (vS a (fT vi 75 (nI (wi + 0))) vj)) hx hb hts iwsRX12_begin1_in12 hown hK hP 0 rfl rfl 74 (by decide) (hts (.fieldLink RX12 577 "OptimaWorksModel" "deep" "I") (by decide +kernel)) (fun _ h9 => h9) rfl dX12_begin1_172 ?_
        refine lv_topi (fun y9 hy9 => ?_)
        obtain rfl : (nI dB) = y9 := (hy9.trans (hdB)).symm
        refine lv_iload_n hx hb dX12_begin1_175 rfl (lv_at hl 0 rfl) ?_
        refine lv_if_eq (tgt := 183) hx hb dX12_begin1_176 (by decide) (fun c_176 => ?_) (fun c9 => False.elim (by have t9 : ¬ (zq).toInt = 0 := toI_neq c9 rfl (by decide); omega))
        have t_176 : (zq).toInt = 0 := toI_eq c_176 rfl (by decide)
        refine lv_iconst (v := 0) hx hb dX12_begin1_183 (by decide) ?_
        refine va_iast (cA := k 48) (n := 120) (f := (vF 48)) hx hb hK hP hD hS 49 48 (WR_get 48 (by decide)) (TR_get 48 (by decide)) (vp_in_nI (show dB < 120 by omega) (by omega)) dX12_begin1_184 (fun H locs hP hD hS => ?_)
        have hP : va_P (dC, dI) vwCl (WR a k h0 (fT vi 75 (nI (wi + 0))) vj (fT (fT (fT (fT (fT (fT vF 39 (upd (vF 39) ((nI dB)).toNatClampNeg rv)) 40 (upd (vF 40) ((nI dB)).toNatClampNeg 0)) 41 (upd (vF 41) ((nI dB)).toNatClampNeg (-1))) 42 (upd (vF 42) ((nI dB)).toNatClampNeg (-1))) 47 (upd (vF 47) ((nI dB)).toNatClampNeg (nI fn))) 48 (upd (vF 48) ((nI dB)).toNatClampNeg 0)) vG) H := by rw [← WR_F 48 (by decide) _ rfl]; exact hP
        have hD : va_D A (WR a k h0 (fT vi 75 (nI (wi + 0))) vj (fT (fT (fT (fT (fT (fT vF 39 (upd (vF 39) ((nI dB)).toNatClampNeg rv)) 40 (upd (vF 40) ((nI dB)).toNatClampNeg 0)) 41 (upd (vF 41) ((nI dB)).toNatClampNeg (-1))) 42 (upd (vF 42) ((nI dB)).toNatClampNeg (-1))) 47 (upd (vF 47) ((nI dB)).toNatClampNeg (nI fn))) 48 (upd (vF 48) ((nI dB)).toNatClampNeg 0)) vG) := by rw [← WR_F 48 (by decide) _ rfl]; exact hD
        refine lv_aload_n hx hb dX12_begin1_185 rfl (lv_at hl 1 rfl) ?_
        refine lv_dup hx hb dX12_begin1_186 rfl ?_
        refine va_get (D := (dC, dI)) (ci := 12) (v := .int (vi 74)) (C := RX12) (T := TX12) (N := 163) (fs := fM (vS a (fT vi 75 (nI (wi + 0))) vj)) hx hb hts iwsRX12_begin1_in12 hown hK hP 0 rfl rfl 74 (by decide) (hts (.fieldLink RX12 577 "OptimaWorksModel" "deep" "I") (by decide +kernel)) (fun _ h9 => h9) rfl dX12_begin1_187 ?_
        refine lv_topi (fun y10 hy10 => ?_)
        obtain rfl : (nI dB) = y10 := (hy10.trans (hdB)).symm
        refine lv_iconst (v := 1) hx hb dX12_begin1_190 (by decide) ?_
        refine lv_iadd hx hb dX12_begin1_191 ?_
        refine lv_topi (fun y11 hy11 => ?_)
        obtain rfl : (nI (dB + 1)) = y11 := (hy11.trans (nI_add dB 1)).symm
        refine va_put (D := (dC, dI)) (ci := 12) (v := .int (nI (dB + 1))) (ty := .int) (C := RX12) (T := TX12) (N := 163) (fs := fM (vS a (fT vi 75 (nI (wi + 0))) vj)) hx hb hts iwsRX12_begin1_in12 tyX12 tyX12_ok nmX12 hown hK hP hD hS 0 rfl rfl 74 (by decide) (hts (.fieldLink RX12 577 "OptimaWorksModel" "deep" "I") (by decide +kernel)) (fun _ h9 => h9) rfl (by decide +kernel) rfl rfl (Nat.le_of_ble_eq_true rfl) dX12_begin1_192 (fun H locs hP hD hS => ?_)
        have hP : va_P (dC, dI) vwCl (WR a k h0 (fT (fT vi 75 (nI (wi + 0))) 74 (nI (dB + 1))) vj (fT (fT (fT (fT (fT (fT vF 39 (upd (vF 39) ((nI dB)).toNatClampNeg rv)) 40 (upd (vF 40) ((nI dB)).toNatClampNeg 0)) 41 (upd (vF 41) ((nI dB)).toNatClampNeg (-1))) 42 (upd (vF 42) ((nI dB)).toNatClampNeg (-1))) 47 (upd (vF 47) ((nI dB)).toNatClampNeg (nI fn))) 48 (upd (vF 48) ((nI dB)).toNatClampNeg 0)) vG) H := by rw [← WR_i 74 _ rfl]; exact hP
        have hD : va_D A (WR a k h0 (fT (fT vi 75 (nI (wi + 0))) 74 (nI (dB + 1))) vj (fT (fT (fT (fT (fT (fT vF 39 (upd (vF 39) ((nI dB)).toNatClampNeg rv)) 40 (upd (vF 40) ((nI dB)).toNatClampNeg 0)) 41 (upd (vF 41) ((nI dB)).toNatClampNeg (-1))) 42 (upd (vF 42) ((nI dB)).toNatClampNeg (-1))) 47 (upd (vF 47) ((nI dB)).toNatClampNeg (nI fn))) 48 (upd (vF 48) ((nI dB)).toNatClampNeg 0)) vG) := by rw [← WR_i 74 _ rfl]; exact hD
        refine W.widen (k := 0) (n := 0) (by decide +kernel) (by decide +kernel) ?_
        have e9 : fT (fT (fT (fT vi 75 (nI (wi + 0))) 74 (nI (dB + 1))) 21 (vi 21)) 22 (vi 22) = fT (fT vi 75 (nI (wi + 0))) 74 (nI (dB + 1)) := (fT_id _ _ ((fT_ne _ _ (Nat.ne_of_beq_eq_false rfl)).trans ((fT_ne _ _ (Nat.ne_of_beq_eq_false rfl)).trans (fT_ne _ _ (Nat.ne_of_beq_eq_false rfl))))).trans (fT_id _ _ ((fT_ne _ _ (Nat.ne_of_beq_eq_false rfl)).trans (fT_ne _ _ (Nat.ne_of_beq_eq_false rfl))))
        have hP : va_P (dC, dI) vwCl (WR a k h0 (fT (fT (fT (fT vi 75 (nI (wi + 0))) 74 (nI (dB + 1))) 21 (vi 21)) 22 (vi 22)) vj (fT (fT (fT (fT (fT (fT vF 39 (upd (vF 39) ((nI dB)).toNatClampNeg rv)) 40 (upd (vF 40) ((nI dB)).toNatClampNeg 0)) 41 (upd (vF 41) ((nI dB)).toNatClampNeg (-1))) 42 (upd (vF 42) ((nI dB)).toNatClampNeg (-1))) 47 (upd (vF 47) ((nI dB)).toNatClampNeg (nI fn))) 48 (upd (vF 48) ((nI dB)).toNatClampNeg 0)) vG) H := by rw [e9]; exact hP
        have hD : va_D A (WR a k h0 (fT (fT (fT (fT vi 75 (nI (wi + 0))) 74 (nI (dB + 1))) 21 (vi 21)) 22 (vi 22)) vj (fT (fT (fT (fT (fT (fT vF 39 (upd (vF 39) ((nI dB)).toNatClampNeg rv)) 40 (upd (vF 40) ((nI dB)).toNatClampNeg 0)) 41 (upd (vF 41) ((nI dB)).toNatClampNeg (-1))) 42 (upd (vF 42) ((nI dB)).toNatClampNeg (-1))) 47 (upd (vF 47) ((nI dB)).toNatClampNeg (nI fn))) 48 (upd (vF 48) ((nI dB)).toNatClampNeg 0)) vG) := by rw [e9]; exact hD
        clear e9
        exact W.vret hx hb hr (fun t9_ ht hW => ⟨⟨((vi 21), (vi 22), (upd (vF 39) ((nI dB)).toNatClampNeg rv), (upd (vF 40) ((nI dB)).toNatClampNeg 0), (upd (vF 41) ((nI dB)).toNatClampNeg (-1)), (upd (vF 42) ((nI dB)).toNatClampNeg (-1)), (upd (vF 47) ((nI dB)).toNatClampNeg (nI fn)), (upd (vF 48) ((nI dB)).toNatClampNeg 0), (dB + 1), (wi + 0)), rfl, by (try dsimp only); exact ⟨hst0, Or.inr ⟨rfl, 0, ⟨by omega, fun h9 => absurd (hzq.resolve_left (fun h => absurd (h.1.symm.trans c_29) (by decide))).2.1 h9, fun h8 h9 => absurd ⟨h8, h9⟩ (hzq.resolve_left (fun h => absurd (h.1.symm.trans c_29) (by decide))).2.2⟩, ⟨rfl, by omega, rfl⟩, by rw [upd_at (by omega), if_pos rfl], by rw [upd_at (by omega), if_pos rfl], by rw [upd_at (by omega), if_pos rfl], by rw [upd_at (by omega), if_pos rfl], by rw [upd_at (by omega), if_pos rfl]; decide⟩, fun q h9 => ⟨by rw [upd_at (by omega), if_neg h9], by rw [upd_at (by omega), if_neg h9], by rw [upd_at (by omega), if_neg h9], by rw [upd_at (by omega), if_neg h9], by rw [upd_at (by omega), if_neg h9]⟩, by omega⟩, by rw [ht]; exact hP, hD⟩, hS.F ht⟩) hS.2.2 dX12_begin1_195
      · have t_29 : ¬ (zq).toInt = 0 := toI_neq c_29 rfl (by decide)
        refine lv_aload_n hx hb dX12_begin1_32 rfl (lv_at hl 1 rfl) ?_
        refine va_get (D := (dC, dI)) (ci := 12) (v := .int (vi 75)) (C := RX12) (T := TX12) (N := 163) (fs := fM (vS a vi vj)) hx hb hts iwsRX12_begin1_in12 hown hK hP 0 rfl rfl 75 (by decide) (hts (.fieldLink RX12 570 "OptimaWorksModel" "within" "I") (by decide +kernel)) (fun _ h9 => h9) rfl dX12_begin1_33 ?_
        refine lv_topi (fun y12 hy12 => ?_)
        obtain rfl : (nI wi) = y12 := (hy12.trans (hwi)).symm
        refine lv_bipush (v := 25) hx hb dX12_begin1_36 (by decide) ?_
        refine lv_icmp_ne (tgt := 96) hx hb dX12_begin1_38 (by decide) (fun c_38 => ?_) (fun c_38 => ?_)
        · have t_38 : ((wi : Nat) : Int) ≠ 25 := toI_ne c_38 (nI_toInt (by omega)) (by decide)
          refine lv_aload_n hx hb dX12_begin1_96 rfl (lv_at hl 1 rfl) ?_
          refine lv_dup hx hb dX12_begin1_97 rfl ?_
          refine va_get (D := (dC, dI)) (ci := 12) (v := .int (vi 75)) (C := RX12) (T := TX12) (N := 163) (fs := fM (vS a vi vj)) hx hb hts iwsRX12_begin1_in12 hown hK hP 0 rfl rfl 75 (by decide) (hts (.fieldLink RX12 570 "OptimaWorksModel" "within" "I") (by decide +kernel)) (fun _ h9 => h9) rfl dX12_begin1_98 ?_
          refine lv_topi (fun y13 hy13 => ?_)
          obtain rfl : (nI wi) = y13 := (hy13.trans (hwi)).symm
          refine lv_iload_n hx hb dX12_begin1_101 rfl (lv_at hl 0 rfl) ?_
          refine lv_if_eq (tgt := 109) hx hb dX12_begin1_102 (by decide) (fun c9 => False.elim (by have t9 : (zq).toInt = 0 := toI_eq c9 rfl (by decide); omega)) (fun c_102 => ?_)
          have t_102 : ¬ (zq).toInt = 0 := toI_neq c_102 rfl (by decide)
          refine lv_iconst (v := 1) hx hb dX12_begin1_105 (by decide) ?_
          refine lv_goto (tgt := 110) hx hb dX12_begin1_106 (by decide) ?_
          refine lv_iadd hx hb dX12_begin1_110 ?_
          refine lv_topi (fun y14 hy14 => ?_)
          obtain rfl : (nI (wi + 1)) = y14 := (hy14.trans (nI_add wi 1)).symm
          refine va_put (D := (dC, dI)) (ci := 12) (v := .int (nI (wi + 1))) (ty := .int) (C := RX12) (T := TX12) (N := 163) (fs := fM (vS a vi vj)) hx hb hts iwsRX12_begin1_in12 tyX12 tyX12_ok nmX12 hown hK hP hD hS 0 rfl rfl 75 (by decide) (hts (.fieldLink RX12 570 "OptimaWorksModel" "within" "I") (by decide +kernel)) (fun _ h9 => h9) rfl (by decide +kernel) rfl rfl (Nat.le_of_ble_eq_true rfl) dX12_begin1_111 (fun H locs hP hD hS => ?_)
          have hP : va_P (dC, dI) vwCl (WR a k h0 (fT vi 75 (nI (wi + 1))) vj vF vG) H := by rw [← WR_i 75 _ rfl]; exact hP
          have hD : va_D A (WR a k h0 (fT vi 75 (nI (wi + 1))) vj vF vG) := by rw [← WR_i 75 _ rfl]; exact hD
          refine lv_aload_n hx hb dX12_begin1_114 rfl (lv_at hl 1 rfl) ?_
          refine va_get (D := (dC, dI)) (ci := 12) (v := .ref (a 39)) (C := RX12) (T := TX12) (N := 163) (fs := fM (vS a (fT vi 75 (nI (wi + 1))) vj)) hx hb hts iwsRX12_begin1_in12 hown hK hP 0 rfl rfl 64 (by decide) (hts (.fieldLink RX12 140 "OptimaWorksModel" "what" "[I") (by decide +kernel)) (fun _ h9 => h9) rfl dX12_begin1_115 ?_
          refine lv_aload_n hx hb dX12_begin1_118 rfl (lv_at hl 1 rfl) ?_
          refine va_get (D := (dC, dI)) (ci := 12) (v := .int (vi 74)) (C := RX12) (T := TX12) (N := 163) (fs := fM (vS a (fT vi 75 (nI (wi + 1))) vj)) hx hb hts iwsRX12_begin1_in12 hown hK hP 0 rfl rfl 74 (by decide) (hts (.fieldLink RX12 577 "OptimaWorksModel" "deep" "I") (by decide +kernel)) (fun _ h9 => h9) rfl dX12_begin1_119 ?_
          refine lv_topi (fun y15 hy15 => ?_)
          obtain rfl : (nI dB) = y15 := (hy15.trans (hdB)).symm
          refine lv_iload_n hx hb dX12_begin1_122 rfl (lv_at hl 2 rfl) ?_
          refine va_iast (cA := k 39) (n := 120) (f := (vF 39)) hx hb hK hP hD hS 40 39 (WR_get 39 (by decide)) (TR_get 39 (by decide)) (vp_in_nI (show dB < 120 by omega) (by omega)) dX12_begin1_123 (fun H locs hP hD hS => ?_)
          have hP : va_P (dC, dI) vwCl (WR a k h0 (fT vi 75 (nI (wi + 1))) vj (fT vF 39 (upd (vF 39) ((nI dB)).toNatClampNeg rv)) vG) H := by rw [← WR_F 39 (by decide) _ rfl]; exact hP
          have hD : va_D A (WR a k h0 (fT vi 75 (nI (wi + 1))) vj (fT vF 39 (upd (vF 39) ((nI dB)).toNatClampNeg rv)) vG) := by rw [← WR_F 39 (by decide) _ rfl]; exact hD
          refine lv_aload_n hx hb dX12_begin1_124 rfl (lv_at hl 1 rfl) ?_
          refine va_get (D := (dC, dI)) (ci := 12) (v := .ref (a 40)) (C := RX12) (T := TX12) (N := 163) (fs := fM (vS a (fT vi 75 (nI (wi + 1))) vj)) hx hb hts iwsRX12_begin1_in12 hown hK hP 0 rfl rfl 65 (by decide) (hts (.fieldLink RX12 143 "OptimaWorksModel" "step" "[I") (by decide +kernel)) (fun _ h9 => h9) rfl dX12_begin1_125 ?_
          refine lv_aload_n hx hb dX12_begin1_128 rfl (lv_at hl 1 rfl) ?_
          refine va_get (D := (dC, dI)) (ci := 12) (v := .int (vi 74)) (C := RX12) (T := TX12) (N := 163) (fs := fM (vS a (fT vi 75 (nI (wi + 1))) vj)) hx hb hts iwsRX12_begin1_in12 hown hK hP 0 rfl rfl 74 (by decide) (hts (.fieldLink RX12 577 "OptimaWorksModel" "deep" "I") (by decide +kernel)) (fun _ h9 => h9) rfl dX12_begin1_129 ?_
          refine lv_topi (fun y16 hy16 => ?_)
          obtain rfl : (nI dB) = y16 := (hy16.trans (hdB)).symm
          refine lv_iconst (v := 0) hx hb dX12_begin1_132 (by decide) ?_
          refine va_iast (cA := k 40) (n := 120) (f := (vF 40)) hx hb hK hP hD hS 41 40 (WR_get 40 (by decide)) (TR_get 40 (by decide)) (vp_in_nI (show dB < 120 by omega) (by omega)) dX12_begin1_133 (fun H locs hP hD hS => ?_)
          have hP : va_P (dC, dI) vwCl (WR a k h0 (fT vi 75 (nI (wi + 1))) vj (fT (fT vF 39 (upd (vF 39) ((nI dB)).toNatClampNeg rv)) 40 (upd (vF 40) ((nI dB)).toNatClampNeg 0)) vG) H := by rw [← WR_F 40 (by decide) _ rfl]; exact hP
          have hD : va_D A (WR a k h0 (fT vi 75 (nI (wi + 1))) vj (fT (fT vF 39 (upd (vF 39) ((nI dB)).toNatClampNeg rv)) 40 (upd (vF 40) ((nI dB)).toNatClampNeg 0)) vG) := by rw [← WR_F 40 (by decide) _ rfl]; exact hD
          refine lv_aload_n hx hb dX12_begin1_134 rfl (lv_at hl 1 rfl) ?_
          refine va_get (D := (dC, dI)) (ci := 12) (v := .ref (a 41)) (C := RX12) (T := TX12) (N := 163) (fs := fM (vS a (fT vi 75 (nI (wi + 1))) vj)) hx hb hts iwsRX12_begin1_in12 hown hK hP 0 rfl rfl 66 (by decide) (hts (.fieldLink RX12 146 "OptimaWorksModel" "got1" "[I") (by decide +kernel)) (fun _ h9 => h9) rfl dX12_begin1_135 ?_
          refine lv_aload_n hx hb dX12_begin1_138 rfl (lv_at hl 1 rfl) ?_
          refine va_get (D := (dC, dI)) (ci := 12) (v := .int (vi 74)) (C := RX12) (T := TX12) (N := 163) (fs := fM (vS a (fT vi 75 (nI (wi + 1))) vj)) hx hb hts iwsRX12_begin1_in12 hown hK hP 0 rfl rfl 74 (by decide) (hts (.fieldLink RX12 577 "OptimaWorksModel" "deep" "I") (by decide +kernel)) (fun _ h9 => h9) rfl dX12_begin1_139 ?_
          refine lv_topi (fun y17 hy17 => ?_)
          obtain rfl : (nI dB) = y17 := (hy17.trans (hdB)).symm
          refine lv_iconst (v := (-1)) hx hb dX12_begin1_142 (by decide) ?_
          refine va_iast (cA := k 41) (n := 120) (f := (vF 41)) hx hb hK hP hD hS 42 41 (WR_get 41 (by decide)) (TR_get 41 (by decide)) (vp_in_nI (show dB < 120 by omega) (by omega)) dX12_begin1_143 (fun H locs hP hD hS => ?_)
          have hP : va_P (dC, dI) vwCl (WR a k h0 (fT vi 75 (nI (wi + 1))) vj (fT (fT (fT vF 39 (upd (vF 39) ((nI dB)).toNatClampNeg rv)) 40 (upd (vF 40) ((nI dB)).toNatClampNeg 0)) 41 (upd (vF 41) ((nI dB)).toNatClampNeg (-1))) vG) H := by rw [← WR_F 41 (by decide) _ rfl]; exact hP
          have hD : va_D A (WR a k h0 (fT vi 75 (nI (wi + 1))) vj (fT (fT (fT vF 39 (upd (vF 39) ((nI dB)).toNatClampNeg rv)) 40 (upd (vF 40) ((nI dB)).toNatClampNeg 0)) 41 (upd (vF 41) ((nI dB)).toNatClampNeg (-1))) vG) := by rw [← WR_F 41 (by decide) _ rfl]; exact hD
          refine lv_aload_n hx hb dX12_begin1_144 rfl (lv_at hl 1 rfl) ?_
          refine va_get (D := (dC, dI)) (ci := 12) (v := .ref (a 42)) (C := RX12) (T := TX12) (N := 163) (fs := fM (vS a (fT vi 75 (nI (wi + 1))) vj)) hx hb hts iwsRX12_begin1_in12 hown hK hP 0 rfl rfl 67 (by decide) (hts (.fieldLink RX12 149 "OptimaWorksModel" "got2" "[I") (by decide +kernel)) (fun _ h9 => h9) rfl dX12_begin1_145 ?_
          refine lv_aload_n hx hb dX12_begin1_148 rfl (lv_at hl 1 rfl) ?_
          refine va_get (D := (dC, dI)) (ci := 12) (v := .int (vi 74)) (C := RX12) (T := TX12) (N := 163) (fs := fM (vS a (fT vi 75 (nI (wi + 1))) vj)) hx hb hts iwsRX12_begin1_in12 hown hK hP 0 rfl rfl 74 (by decide) (hts (.fieldLink RX12 577 "OptimaWorksModel" "deep" "I") (by decide +kernel)) (fun _ h9 => h9) rfl dX12_begin1_149 ?_
          refine lv_topi (fun y18 hy18 => ?_)
          obtain rfl : (nI dB) = y18 := (hy18.trans (hdB)).symm
          refine lv_iconst (v := (-1)) hx hb dX12_begin1_152 (by decide) ?_
          refine va_iast (cA := k 42) (n := 120) (f := (vF 42)) hx hb hK hP hD hS 43 42 (WR_get 42 (by decide)) (TR_get 42 (by decide)) (vp_in_nI (show dB < 120 by omega) (by omega)) dX12_begin1_153 (fun H locs hP hD hS => ?_)
          have hP : va_P (dC, dI) vwCl (WR a k h0 (fT vi 75 (nI (wi + 1))) vj (fT (fT (fT (fT vF 39 (upd (vF 39) ((nI dB)).toNatClampNeg rv)) 40 (upd (vF 40) ((nI dB)).toNatClampNeg 0)) 41 (upd (vF 41) ((nI dB)).toNatClampNeg (-1))) 42 (upd (vF 42) ((nI dB)).toNatClampNeg (-1))) vG) H := by rw [← WR_F 42 (by decide) _ rfl]; exact hP
          have hD : va_D A (WR a k h0 (fT vi 75 (nI (wi + 1))) vj (fT (fT (fT (fT vF 39 (upd (vF 39) ((nI dB)).toNatClampNeg rv)) 40 (upd (vF 40) ((nI dB)).toNatClampNeg 0)) 41 (upd (vF 41) ((nI dB)).toNatClampNeg (-1))) 42 (upd (vF 42) ((nI dB)).toNatClampNeg (-1))) vG) := by rw [← WR_F 42 (by decide) _ rfl]; exact hD
          refine lv_aload_n hx hb dX12_begin1_154 rfl (lv_at hl 1 rfl) ?_
          refine va_get (D := (dC, dI)) (ci := 12) (v := .ref (a 47)) (C := RX12) (T := TX12) (N := 163) (fs := fM (vS a (fT vi 75 (nI (wi + 1))) vj)) hx hb hts iwsRX12_begin1_in12 hown hK hP 0 rfl rfl 72 (by decide) (hts (.fieldLink RX12 164 "OptimaWorksModel" "begins" "[I") (by decide +kernel)) (fun _ h9 => h9) rfl dX12_begin1_155 ?_
          refine lv_aload_n hx hb dX12_begin1_158 rfl (lv_at hl 1 rfl) ?_
          refine va_get (D := (dC, dI)) (ci := 12) (v := .int (vi 74)) (C := RX12) (T := TX12) (N := 163) (fs := fM (vS a (fT vi 75 (nI (wi + 1))) vj)) hx hb hts iwsRX12_begin1_in12 hown hK hP 0 rfl rfl 74 (by decide) (hts (.fieldLink RX12 577 "OptimaWorksModel" "deep" "I") (by decide +kernel)) (fun _ h9 => h9) rfl dX12_begin1_159 ?_
          refine lv_topi (fun y19 hy19 => ?_)
          obtain rfl : (nI dB) = y19 := (hy19.trans (hdB)).symm
          refine lv_aload_n hx hb dX12_begin1_162 rfl (lv_at hl 1 rfl) ?_
          refine va_get (D := (dC, dI)) (ci := 12) (v := .int (vi 19)) (C := RX12) (T := TX12) (N := 163) (fs := fM (vS a (fT vi 75 (nI (wi + 1))) vj)) hx hb hts iwsRX12_begin1_in12 hown hK hP 0 rfl rfl 19 (by decide) (hts (.fieldLink RX12 488 "OptimaWorksModel" "from" "I") (by decide +kernel)) (fun _ h9 => h9) rfl dX12_begin1_163 ?_
          refine lv_topi (fun y20 hy20 => ?_)
          obtain rfl : (nI fn) = y20 := (hy20.trans (hfr)).symm
          refine va_iast (cA := k 47) (n := 120) (f := (vF 47)) hx hb hK hP hD hS 48 47 (WR_get 47 (by decide)) (TR_get 47 (by decide)) (vp_in_nI (show dB < 120 by omega) (by omega)) dX12_begin1_166 (fun H locs hP hD hS => ?_)
          have hP : va_P (dC, dI) vwCl (WR a k h0 (fT vi 75 (nI (wi + 1))) vj (fT (fT (fT (fT (fT vF 39 (upd (vF 39) ((nI dB)).toNatClampNeg rv)) 40 (upd (vF 40) ((nI dB)).toNatClampNeg 0)) 41 (upd (vF 41) ((nI dB)).toNatClampNeg (-1))) 42 (upd (vF 42) ((nI dB)).toNatClampNeg (-1))) 47 (upd (vF 47) ((nI dB)).toNatClampNeg (nI fn))) vG) H := by rw [← WR_F 47 (by decide) _ rfl]; exact hP
          have hD : va_D A (WR a k h0 (fT vi 75 (nI (wi + 1))) vj (fT (fT (fT (fT (fT vF 39 (upd (vF 39) ((nI dB)).toNatClampNeg rv)) 40 (upd (vF 40) ((nI dB)).toNatClampNeg 0)) 41 (upd (vF 41) ((nI dB)).toNatClampNeg (-1))) 42 (upd (vF 42) ((nI dB)).toNatClampNeg (-1))) 47 (upd (vF 47) ((nI dB)).toNatClampNeg (nI fn))) vG) := by rw [← WR_F 47 (by decide) _ rfl]; exact hD
          refine lv_aload_n hx hb dX12_begin1_167 rfl (lv_at hl 1 rfl) ?_
          refine va_get (D := (dC, dI)) (ci := 12) (v := .ref (a 48)) (C := RX12) (T := TX12) (N := 163) (fs := fM (vS a (fT vi 75 (nI (wi + 1))) vj)) hx hb hts iwsRX12_begin1_in12 hown hK hP 0 rfl rfl 73 (by decide) (hts (.fieldLink RX12 167 "OptimaWorksModel" "extra" "[I") (by decide +kernel)) (fun _ h9 => h9) rfl dX12_begin1_168 ?_
          refine lv_aload_n hx hb dX12_begin1_171 rfl (lv_at hl 1 rfl) ?_
          refine va_get (D := (dC, dI)) (ci := 12) (v := .int (vi 74)) (C := RX12) (T := TX12) (N := 163) (fs := fM (vS a (fT vi 75 (nI (wi + 1))) vj)) hx hb hts iwsRX12_begin1_in12 hown hK hP 0 rfl rfl 74 (by decide) (hts (.fieldLink RX12 577 "OptimaWorksModel" "deep" "I") (by decide +kernel)) (fun _ h9 => h9) rfl dX12_begin1_172 ?_
          refine lv_topi (fun y21 hy21 => ?_)
          obtain rfl : (nI dB) = y21 := (hy21.trans (hdB)).symm
          refine lv_iload_n hx hb dX12_begin1_175 rfl (lv_at hl 0 rfl) ?_
          refine lv_if_eq (tgt := 183) hx hb dX12_begin1_176 (by decide) (fun c9 => False.elim (by have t9 : (zq).toInt = 0 := toI_eq c9 rfl (by decide); omega)) (fun c_176 => ?_)
          have t_176 : ¬ (zq).toInt = 0 := toI_neq c_176 rfl (by decide)
          refine lv_iconst (v := 1) hx hb dX12_begin1_179 (by decide) ?_
          refine lv_goto (tgt := 184) hx hb dX12_begin1_180 (by decide) ?_
          refine va_iast (cA := k 48) (n := 120) (f := (vF 48)) hx hb hK hP hD hS 49 48 (WR_get 48 (by decide)) (TR_get 48 (by decide)) (vp_in_nI (show dB < 120 by omega) (by omega)) dX12_begin1_184 (fun H locs hP hD hS => ?_)
          have hP : va_P (dC, dI) vwCl (WR a k h0 (fT vi 75 (nI (wi + 1))) vj (fT (fT (fT (fT (fT (fT vF 39 (upd (vF 39) ((nI dB)).toNatClampNeg rv)) 40 (upd (vF 40) ((nI dB)).toNatClampNeg 0)) 41 (upd (vF 41) ((nI dB)).toNatClampNeg (-1))) 42 (upd (vF 42) ((nI dB)).toNatClampNeg (-1))) 47 (upd (vF 47) ((nI dB)).toNatClampNeg (nI fn))) 48 (upd (vF 48) ((nI dB)).toNatClampNeg 1)) vG) H := by rw [← WR_F 48 (by decide) _ rfl]; exact hP
          have hD : va_D A (WR a k h0 (fT vi 75 (nI (wi + 1))) vj (fT (fT (fT (fT (fT (fT vF 39 (upd (vF 39) ((nI dB)).toNatClampNeg rv)) 40 (upd (vF 40) ((nI dB)).toNatClampNeg 0)) 41 (upd (vF 41) ((nI dB)).toNatClampNeg (-1))) 42 (upd (vF 42) ((nI dB)).toNatClampNeg (-1))) 47 (upd (vF 47) ((nI dB)).toNatClampNeg (nI fn))) 48 (upd (vF 48) ((nI dB)).toNatClampNeg 1)) vG) := by rw [← WR_F 48 (by decide) _ rfl]; exact hD
          refine lv_aload_n hx hb dX12_begin1_185 rfl (lv_at hl 1 rfl) ?_
          refine lv_dup hx hb dX12_begin1_186 rfl ?_
          refine va_get (D := (dC, dI)) (ci := 12) (v := .int (vi 74)) (C := RX12) (T := TX12) (N := 163) (fs := fM (vS a (fT vi 75 (nI (wi + 1))) vj)) hx hb hts iwsRX12_begin1_in12 hown hK hP 0 rfl rfl 74 (by decide) (hts (.fieldLink RX12 577 "OptimaWorksModel" "deep" "I") (by decide +kernel)) (fun _ h9 => h9) rfl dX12_begin1_187 ?_
          refine lv_topi (fun y22 hy22 => ?_)
          obtain rfl : (nI dB) = y22 := (hy22.trans (hdB)).symm
          refine lv_iconst (v := 1) hx hb dX12_begin1_190 (by decide) ?_
          refine lv_iadd hx hb dX12_begin1_191 ?_
          refine lv_topi (fun y23 hy23 => ?_)
          obtain rfl : (nI (dB + 1)) = y23 := (hy23.trans (nI_add dB 1)).symm
          refine va_put (D := (dC, dI)) (ci := 12) (v := .int (nI (dB + 1))) (ty := .int) (C := RX12) (T := TX12) (N := 163) (fs := fM (vS a (fT vi 75 (nI (wi + 1))) vj)) hx hb hts iwsRX12_begin1_in12 tyX12 tyX12_ok nmX12 hown hK hP hD hS 0 rfl rfl 74 (by decide) (hts (.fieldLink RX12 577 "OptimaWorksModel" "deep" "I") (by decide +kernel)) (fun _ h9 => h9) rfl (by decide +kernel) rfl rfl (Nat.le_of_ble_eq_true rfl) dX12_begin1_192 (fun H locs hP hD hS => ?_)
          have hP : va_P (dC, dI) vwCl (WR a k h0 (fT (fT vi 75 (nI (wi + 1))) 74 (nI (dB + 1))) vj (fT (fT (fT (fT (fT (fT vF 39 (upd (vF 39) ((nI dB)).toNatClampNeg rv)) 40 (upd (vF 40) ((nI dB)).toNatClampNeg 0)) 41 (upd (vF 41) ((nI dB)).toNatClampNeg (-1))) 42 (upd (vF 42) ((nI dB)).toNatClampNeg (-1))) 47 (upd (vF 47) ((nI dB)).toNatClampNeg (nI fn))) 48 (upd (vF 48) ((nI dB)).toNatClampNeg 1)) vG) H := by rw [← WR_i 74 _ rfl]; exact hP
          have hD : va_D A (WR a k h0 (fT (fT vi 75 (nI (wi + 1))) 74 (nI (dB + 1))) vj (fT (fT (fT (fT (fT (fT vF 39 (upd (vF 39) ((nI dB)).toNatClampNeg rv)) 40 (upd (vF 40) ((nI dB)).toNatClampNeg 0)) 41 (upd (vF 41) ((nI dB)).toNatClampNeg (-1))) 42 (upd (vF 42) ((nI dB)).toNatClampNeg (-1))) 47 (upd (vF 47) ((nI dB)).toNatClampNeg (nI fn))) 48 (upd (vF 48) ((nI dB)).toNatClampNeg 1)) vG) := by rw [← WR_i 74 _ rfl]; exact hD
          refine W.widen (k := 0) (n := 0) (by decide +kernel) (by decide +kernel) ?_
          have e9 : fT (fT (fT (fT vi 75 (nI (wi + 1))) 74 (nI (dB + 1))) 21 (vi 21)) 22 (vi 22) = fT (fT vi 75 (nI (wi + 1))) 74 (nI (dB + 1)) := (fT_id _ _ ((fT_ne _ _ (Nat.ne_of_beq_eq_false rfl)).trans ((fT_ne _ _ (Nat.ne_of_beq_eq_false rfl)).trans (fT_ne _ _ (Nat.ne_of_beq_eq_false rfl))))).trans (fT_id _ _ ((fT_ne _ _ (Nat.ne_of_beq_eq_false rfl)).trans (fT_ne _ _ (Nat.ne_of_beq_eq_false rfl))))
          have hP : va_P (dC, dI) vwCl (WR a k h0 (fT (fT (fT (fT vi 75 (nI (wi + 1))) 74 (nI (dB + 1))) 21 (vi 21)) 22 (vi 22)) vj (fT (fT (fT (fT (fT (fT vF 39 (upd (vF 39) ((nI dB)).toNatClampNeg rv)) 40 (upd (vF 40) ((nI dB)).toNatClampNeg 0)) 41 (upd (vF 41) ((nI dB)).toNatClampNeg (-1))) 42 (upd (vF 42) ((nI dB)).toNatClampNeg (-1))) 47 (upd (vF 47) ((nI dB)).toNatClampNeg (nI fn))) 48 (upd (vF 48) ((nI dB)).toNatClampNeg 1)) vG) H := by rw [e9]; exact hP
          have hD : va_D A (WR a k h0 (fT (fT (fT (fT vi 75 (nI (wi + 1))) 74 (nI (dB + 1))) 21 (vi 21)) 22 (vi 22)) vj (fT (fT (fT (fT (fT (fT vF 39 (upd (vF 39) ((nI dB)).toNatClampNeg rv)) 40 (upd (vF 40) ((nI dB)).toNatClampNeg 0)) 41 (upd (vF 41) ((nI dB)).toNatClampNeg (-1))) 42 (upd (vF 42) ((nI dB)).toNatClampNeg (-1))) 47 (upd (vF 47) ((nI dB)).toNatClampNeg (nI fn))) 48 (upd (vF 48) ((nI dB)).toNatClampNeg 1)) vG) := by rw [e9]; exact hD
          clear e9
          exact W.vret hx hb hr (fun t9_ ht hW => ⟨⟨((vi 21), (vi 22), (upd (vF 39) ((nI dB)).toNatClampNeg rv), (upd (vF 40) ((nI dB)).toNatClampNeg 0), (upd (vF 41) ((nI dB)).toNatClampNeg (-1)), (upd (vF 42) ((nI dB)).toNatClampNeg (-1)), (upd (vF 47) ((nI dB)).toNatClampNeg (nI fn)), (upd (vF 48) ((nI dB)).toNatClampNeg 1), (dB + 1), (wi + 1)), rfl, by (try dsimp only); exact ⟨hst0, Or.inr ⟨rfl, 1, ⟨by omega, fun _ => rfl, fun _ _ => rfl⟩, ⟨rfl, by omega, rfl⟩, by rw [upd_at (by omega), if_pos rfl], by rw [upd_at (by omega), if_pos rfl], by rw [upd_at (by omega), if_pos rfl], by rw [upd_at (by omega), if_pos rfl], by rw [upd_at (by omega), if_pos rfl]; decide⟩, fun q h9 => ⟨by rw [upd_at (by omega), if_neg h9], by rw [upd_at (by omega), if_neg h9], by rw [upd_at (by omega), if_neg h9], by rw [upd_at (by omega), if_neg h9], by rw [upd_at (by omega), if_neg h9]⟩, by omega⟩, by rw [ht]; exact hP, hD⟩, hS.F ht⟩) hS.2.2 dX12_begin1_195
        · have t_38 : ((wi : Nat) : Int) = 25 := toI_nne c_38 (nI_toInt (by omega)) (by decide)
          refine lv_iload_n hx hb dX12_begin1_41 rfl (lv_at hl 2 rfl) ?_
          refine lv_iconst (v := 2) hx hb dX12_begin1_42 (by decide) ?_
          refine W.cut (pc := 56) (fun H locs ls stk => ∃ (zt : Int32),  stk = [.int zt] ∧ va_P (dC, dI) vwCl (WR a k h0 vi vj vF vG) H ∧ va_D A (WR a k h0 vi vj vF vG) ∧ va_S A s.heap H locs ∧ lv_has ls 4 [(2, .int zq), (0, .ref h0), (1, .int rv)]) (fun join2 => ?_) ?_
          · refine lv_icmp_eq (tgt := 51) hx hb dX12_begin1_43 (by decide) (fun c_43 => ?_) (fun c_43 => ?_)
            · have t_43 : (rv).toInt = 2 := toI_eq c_43 rfl (by decide)
              refine lv_iconst (v := 1) hx hb dX12_begin1_51 (by decide) ?_
              refine lv_goto (tgt := 56) hx hb dX12_begin1_52 (by decide) ?_
              have hl : lv_has _ _ ([(2, .int zq), (0, .ref h0), (1, .int rv)]) := lv_sub hl [0, 1, 2] rfl
              exact join2 _ _ _ _ ⟨1, rfl, hP, hD, hS, hl⟩
            · have t_43 : ¬ (rv).toInt = 2 := toI_neq c_43 rfl (by decide)
              refine lv_iload_n hx hb dX12_begin1_46 rfl (lv_at hl 2 rfl) ?_
              refine lv_iconst (v := 3) hx hb dX12_begin1_47 (by decide) ?_
              refine lv_icmp_ne (tgt := 55) hx hb dX12_begin1_48 (by decide) (fun c_48 => ?_) (fun c_48 => ?_)
              · have t_48 : (rv).toInt ≠ 3 := toI_ne c_48 rfl (by decide)
                refine lv_iconst (v := 0) hx hb dX12_begin1_55 (by decide) ?_
                have hl : lv_has _ _ ([(2, .int zq), (0, .ref h0), (1, .int rv)]) := lv_sub hl [0, 1, 2] rfl
                exact join2 _ _ _ _ ⟨0, rfl, hP, hD, hS, hl⟩
              · have t_48 : (rv).toInt = 3 := toI_nne c_48 rfl (by decide)
                refine lv_iconst (v := 1) hx hb dX12_begin1_51 (by decide) ?_
                refine lv_goto (tgt := 56) hx hb dX12_begin1_52 (by decide) ?_
                have hl : lv_has _ _ ([(2, .int zq), (0, .ref h0), (1, .int rv)]) := lv_sub hl [0, 1, 2] rfl
                exact join2 _ _ _ _ ⟨1, rfl, hP, hD, hS, hl⟩
          · rintro H locs ls stk ⟨zt, rfl, hP, hD, hS, hl⟩
            refine lv_istore_n hx hb dX12_begin1_56 rfl hl (by decide) rfl (fun ls (hl : lv_has ls _ ([(3, .int zt), (2, .int zq), (0, .ref h0), (1, .int rv)])) => ?_)
            refine lv_iload_n hx hb dX12_begin1_57 rfl (lv_at hl 0 rfl) ?_
            refine lv_if_eq (tgt := 79) hx hb dX12_begin1_58 (by decide) (fun c_58 => ?_) (fun c_58 => ?_)
            · have t_58 : (zt).toInt = 0 := toI_eq c_58 rfl (by decide)
              refine lv_aload_n hx hb dX12_begin1_79 rfl (lv_at hl 2 rfl) ?_
              have hFc := allFree hD hS hA
              refine va_calli (va_runV (As := []) (rest := []) ⟨hx, hb, hml, hown, hts⟩ (r_X12_canBegin l dC dI a k h0 vi vj vF vG tp an fn nm se pa va bd hTp (by first | assumption | decide | omega | rfl) ha0 hfr (by first | assumption | decide | omega | rfl) (by first | assumption | decide | omega | rfl) hnm (by first | assumption | decide | omega | rfl) (by first | assumption | decide | omega | rfl) (by first | assumption | decide | omega | rfl) hbd (by first | assumption | decide | omega | rfl) (by first | assumption | decide | omega | rfl) H.size) (cwV 0 hts gwsRX12_begin1_1 rfl rfl rfl hd_yX12_canBegin_RX12 (by decide +kernel)) (fz_pre (va_recv hK hP (ci := 12) (q0 := 0) rfl rfl) hP hK hD) rfl rfl hl.1 rfl (lv_room (Nat.le_of_ble_eq_true rfl)) dX12_begin1_80 (by decide +kernel)) hS (fun q _ h => hFc q h) hFc (fun r80 u t9_ H locs ht hvm hw9 hB9 hz1 hk1 hS => ?_)
              obtain ⟨s280, p280⟩ := u
              try dsimp only at hw9 hB9
              have hP : va_P (dC, dI) vwCl (WR a k h0 (fT (fT vi 21 s280) 22 p280) vj vF vG) H := fz_P ht hB9.1
              have hD : va_D A (WR a k h0 (fT (fT vi 21 s280) 22 p280) vj vF vG) := hB9.2.weaken (fun _ q _ h => hFc q.1 h)
              rcases hw9 with ⟨rfl, f80_0, f80_1, f80_2⟩ | ⟨rfl, f80_0⟩
              · have f80_1 : CbW (vi 18) (vi 20) := f80_1
                have f80_2 : CbQ (vi 18) (vF 9) (vF 10) (vF 11) (vF 12) (vF 14) (vF 15) fn an nm bd := f80_2
                refine lv_if_eq (tgt := 95) hx hb dX12_begin1_83 (by decide) (fun c9 => absurd c9 (by decide)) (fun _ => ?_)
                refine lv_aload_n hx hb dX12_begin1_86 rfl (lv_at hl 2 rfl) ?_
                refine lv_iconst (v := 4) hx hb dX12_begin1_87 (by decide) ?_
                refine lv_aload_n hx hb dX12_begin1_88 rfl (lv_at hl 2 rfl) ?_
                refine va_get (D := (dC, dI)) (ci := 12) (v := .int (vi 19)) (C := RX12) (T := TX12) (N := 163) (fs := fM (vS a (fT (fT vi 21 s280) 22 p280) vj)) hx hb hts iwsRX12_begin1_in12 hown hK hP 0 rfl rfl 19 (by decide) (hts (.fieldLink RX12 488 "OptimaWorksModel" "from" "I") (by decide +kernel)) (fun _ h9 => h9) rfl dX12_begin1_89 ?_
                refine lv_topi (fun y24 hy24 => ?_)
                obtain rfl : (nI fn) = y24 := (hy24.trans (hfr)).symm
                have hFc := allFree hD hS hA
                refine va_callv (va_runV (As := [.int 4, .int (nI fn)]) (rest := []) ⟨hx, hb, hml, hown, hts⟩ (r_X12_faultAt l dC dI a k h0 (fT (fT vi 21 s280) 22 p280) vj vF vG 4 (nI fn) (by first | assumption | decide | omega | rfl) H.size) (cwV 2 hts gwsRX12_begin1_2 rfl rfl rfl hd_yX12_faultAt_RX12 (by decide +kernel)) (fz_pre (va_recv hK hP (ci := 12) (q0 := 0) rfl rfl) hP hK hD) rfl rfl hl.1 rfl (lv_room (Nat.le_of_ble_eq_true rfl)) dX12_begin1_92 (by decide +kernel)) hS (fun q _ h => hFc q h) hFc (fun u t9_ H locs ht hvm hw9 hB9 hz1 hk1 hS => ?_)
                obtain ⟨s292, p292⟩ := u
                try dsimp only at hw9 hB9
                have hP : va_P (dC, dI) vwCl (WR a k h0 (fT (fT (fT (fT vi 21 s280) 22 p280) 21 s292) 22 p292) vj vF vG) H := fz_P ht hB9.1
                have hD : va_D A (WR a k h0 (fT (fT (fT (fT vi 21 s280) 22 p280) 21 s292) 22 p292) vj vF vG) := hB9.2.weaken (fun _ q _ h => hFc q.1 h)
                have e9 : fT (fT vi 21 s292) 22 p292 = fT (fT (fT (fT vi 21 s280) 22 p280) 21 s292) 22 p292 := ((congrArg (fun g9 => fT g9 22 p292) ((fT_sw _ _ _ (Nat.ne_of_beq_eq_false rfl)).trans (congrArg (fun g9 => fT g9 22 p280) (fT_sm _ _ _ _)))).trans (fT_sm _ _ _ _)).symm
                rw [← e9] at hP hD
                clear e9
                have hP : va_P (dC, dI) vwCl (WR a k h0 (fT (fT vi 21 s292) 22 p292) vj vF vG) H := hP
                have hD : va_D A (WR a k h0 (fT (fT vi 21 s292) 22 p292) vj vF vG) := hD
                obtain ⟨f92_0, f92_1⟩ := hw9
                have f92_0 : (0 < s280.toInt ∧ s292 = s280 ∧ p292 = p280) ∨ (¬ 0 < s280.toInt ∧ s292 = 4 ∧ p292 = (nI fn)) := f92_0
                refine W.widen (k := 0) (n := 0) (by decide +kernel) (by decide +kernel) ?_
                have e9 : fT (fT (fT (fT vi 75 (nI wi)) 74 (nI dB)) 21 s292) 22 p292 = fT (fT vi 21 s292) 22 p292 := by funext q9; by_cases h9_75 : q9 = 75; (subst h9_75; exact ((fT_ne _ _ (Nat.ne_of_beq_eq_false rfl)).trans ((fT_ne _ _ (Nat.ne_of_beq_eq_false rfl)).trans ((fT_ne _ _ (Nat.ne_of_beq_eq_false rfl)).trans (fT_eq _ _ _)))).trans (Eq.trans (by first | rfl | assumption | (symm; assumption) | (subst_vars; rfl)) ((fT_ne _ _ (Nat.ne_of_beq_eq_false rfl)).trans (fT_ne _ _ (Nat.ne_of_beq_eq_false rfl))).symm)); by_cases h9_74 : q9 = 74; (subst h9_74; exact ((fT_ne _ _ (Nat.ne_of_beq_eq_false rfl)).trans ((fT_ne _ _ (Nat.ne_of_beq_eq_false rfl)).trans (fT_eq _ _ _))).trans (Eq.trans (by first | rfl | assumption | (symm; assumption) | (subst_vars; rfl)) ((fT_ne _ _ (Nat.ne_of_beq_eq_false rfl)).trans (fT_ne _ _ (Nat.ne_of_beq_eq_false rfl))).symm)); by_cases h9_21 : q9 = 21; (subst h9_21; exact ((fT_ne _ _ (Nat.ne_of_beq_eq_false rfl)).trans (fT_eq _ _ _)).trans (Eq.trans (by first | rfl | assumption | (symm; assumption) | (subst_vars; rfl)) ((fT_ne _ _ (Nat.ne_of_beq_eq_false rfl)).trans (fT_eq _ _ _)).symm)); by_cases h9_22 : q9 = 22; (subst h9_22; exact (fT_eq _ _ _).trans (Eq.trans (by first | rfl | assumption | (symm; assumption) | (subst_vars; rfl)) (fT_eq _ _ _).symm)); exact ((fT_ne _ _ h9_22).trans ((fT_ne _ _ h9_21).trans ((fT_ne _ _ h9_74).trans (fT_ne _ _ h9_75)))).trans ((fT_ne _ _ h9_22).trans (fT_ne _ _ h9_21)).symm
                have hP : va_P (dC, dI) vwCl (WR a k h0 (fT (fT (fT (fT vi 75 (nI wi)) 74 (nI dB)) 21 s292) 22 p292) vj vF vG) H := by rw [e9]; exact hP
                have hD : va_D A (WR a k h0 (fT (fT (fT (fT vi 75 (nI wi)) 74 (nI dB)) 21 s292) 22 p292) vj vF vG) := by rw [e9]; exact hD
                clear e9
                have e9 : fT (fT (fT (fT (fT (fT vF 39 (vF 39)) 40 (vF 40)) 41 (vF 41)) 42 (vF 42)) 47 (vF 47)) 48 (vF 48) = vF := (fT_id _ _ ((fT_ne _ _ (Nat.ne_of_beq_eq_false rfl)).trans ((fT_ne _ _ (Nat.ne_of_beq_eq_false rfl)).trans ((fT_ne _ _ (Nat.ne_of_beq_eq_false rfl)).trans ((fT_ne _ _ (Nat.ne_of_beq_eq_false rfl)).trans (fT_ne _ _ (Nat.ne_of_beq_eq_false rfl))))))).trans ((fT_id _ _ ((fT_ne _ _ (Nat.ne_of_beq_eq_false rfl)).trans ((fT_ne _ _ (Nat.ne_of_beq_eq_false rfl)).trans ((fT_ne _ _ (Nat.ne_of_beq_eq_false rfl)).trans (fT_ne _ _ (Nat.ne_of_beq_eq_false rfl)))))).trans ((fT_id _ _ ((fT_ne _ _ (Nat.ne_of_beq_eq_false rfl)).trans ((fT_ne _ _ (Nat.ne_of_beq_eq_false rfl)).trans (fT_ne _ _ (Nat.ne_of_beq_eq_false rfl))))).trans ((fT_id _ _ ((fT_ne _ _ (Nat.ne_of_beq_eq_false rfl)).trans (fT_ne _ _ (Nat.ne_of_beq_eq_false rfl)))).trans ((fT_id _ _ (fT_ne _ _ (Nat.ne_of_beq_eq_false rfl))).trans (fT_id _ _ (rfl))))))
                have hP : va_P (dC, dI) vwCl (WR a k h0 (fT (fT (fT (fT vi 75 (nI wi)) 74 (nI dB)) 21 s292) 22 p292) vj (fT (fT (fT (fT (fT (fT vF 39 (vF 39)) 40 (vF 40)) 41 (vF 41)) 42 (vF 42)) 47 (vF 47)) 48 (vF 48)) vG) H := by rw [e9]; exact hP
                have hD : va_D A (WR a k h0 (fT (fT (fT (fT vi 75 (nI wi)) 74 (nI dB)) 21 s292) 22 p292) vj (fT (fT (fT (fT (fT (fT vF 39 (vF 39)) 40 (vF 40)) 41 (vF 41)) 42 (vF 42)) 47 (vF 47)) 48 (vF 48)) vG) := by rw [e9]; exact hD
                clear e9
                exact W.vret hx hb hr (fun t9_ ht hW => ⟨⟨(s292, p292, (vF 39), (vF 40), (vF 41), (vF 42), (vF 47), (vF 48), dB, wi), rfl, by (try dsimp only); exact ⟨by omega, Or.inl (by omega), fun _ _ => ⟨rfl, rfl, rfl, rfl, rfl⟩, by omega⟩, by rw [ht]; exact hP, hD⟩, hS.F ht⟩) hS.2.2 dX12_begin1_95
              · refine lv_if_eq (tgt := 95) hx hb dX12_begin1_83 (by decide) (fun _ => ?_) (fun c9 => absurd (by decide) c9)
                refine W.widen (k := 0) (n := 0) (by decide +kernel) (by decide +kernel) ?_
                have e9 : fT (fT (fT (fT vi 75 (nI wi)) 74 (nI dB)) 21 s280) 22 p280 = fT (fT vi 21 s280) 22 p280 := by funext q9; by_cases h9_75 : q9 = 75; (subst h9_75; exact ((fT_ne _ _ (Nat.ne_of_beq_eq_false rfl)).trans ((fT_ne _ _ (Nat.ne_of_beq_eq_false rfl)).trans ((fT_ne _ _ (Nat.ne_of_beq_eq_false rfl)).trans (fT_eq _ _ _)))).trans (Eq.trans (by first | rfl | assumption | (symm; assumption) | (subst_vars; rfl)) ((fT_ne _ _ (Nat.ne_of_beq_eq_false rfl)).trans (fT_ne _ _ (Nat.ne_of_beq_eq_false rfl))).symm)); by_cases h9_74 : q9 = 74; (subst h9_74; exact ((fT_ne _ _ (Nat.ne_of_beq_eq_false rfl)).trans ((fT_ne _ _ (Nat.ne_of_beq_eq_false rfl)).trans (fT_eq _ _ _))).trans (Eq.trans (by first | rfl | assumption | (symm; assumption) | (subst_vars; rfl)) ((fT_ne _ _ (Nat.ne_of_beq_eq_false rfl)).trans (fT_ne _ _ (Nat.ne_of_beq_eq_false rfl))).symm)); by_cases h9_21 : q9 = 21; (subst h9_21; exact ((fT_ne _ _ (Nat.ne_of_beq_eq_false rfl)).trans (fT_eq _ _ _)).trans (Eq.trans (by first | rfl | assumption | (symm; assumption) | (subst_vars; rfl)) ((fT_ne _ _ (Nat.ne_of_beq_eq_false rfl)).trans (fT_eq _ _ _)).symm)); by_cases h9_22 : q9 = 22; (subst h9_22; exact (fT_eq _ _ _).trans (Eq.trans (by first | rfl | assumption | (symm; assumption) | (subst_vars; rfl)) (fT_eq _ _ _).symm)); exact ((fT_ne _ _ h9_22).trans ((fT_ne _ _ h9_21).trans ((fT_ne _ _ h9_74).trans (fT_ne _ _ h9_75)))).trans ((fT_ne _ _ h9_22).trans (fT_ne _ _ h9_21)).symm
                have hP : va_P (dC, dI) vwCl (WR a k h0 (fT (fT (fT (fT vi 75 (nI wi)) 74 (nI dB)) 21 s280) 22 p280) vj vF vG) H := by rw [e9]; exact hP
                have hD : va_D A (WR a k h0 (fT (fT (fT (fT vi 75 (nI wi)) 74 (nI dB)) 21 s280) 22 p280) vj vF vG) := by rw [e9]; exact hD
                clear e9
                have e9 : fT (fT (fT (fT (fT (fT vF 39 (vF 39)) 40 (vF 40)) 41 (vF 41)) 42 (vF 42)) 47 (vF 47)) 48 (vF 48) = vF := (fT_id _ _ ((fT_ne _ _ (Nat.ne_of_beq_eq_false rfl)).trans ((fT_ne _ _ (Nat.ne_of_beq_eq_false rfl)).trans ((fT_ne _ _ (Nat.ne_of_beq_eq_false rfl)).trans ((fT_ne _ _ (Nat.ne_of_beq_eq_false rfl)).trans (fT_ne _ _ (Nat.ne_of_beq_eq_false rfl))))))).trans ((fT_id _ _ ((fT_ne _ _ (Nat.ne_of_beq_eq_false rfl)).trans ((fT_ne _ _ (Nat.ne_of_beq_eq_false rfl)).trans ((fT_ne _ _ (Nat.ne_of_beq_eq_false rfl)).trans (fT_ne _ _ (Nat.ne_of_beq_eq_false rfl)))))).trans ((fT_id _ _ ((fT_ne _ _ (Nat.ne_of_beq_eq_false rfl)).trans ((fT_ne _ _ (Nat.ne_of_beq_eq_false rfl)).trans (fT_ne _ _ (Nat.ne_of_beq_eq_false rfl))))).trans ((fT_id _ _ ((fT_ne _ _ (Nat.ne_of_beq_eq_false rfl)).trans (fT_ne _ _ (Nat.ne_of_beq_eq_false rfl)))).trans ((fT_id _ _ (fT_ne _ _ (Nat.ne_of_beq_eq_false rfl))).trans (fT_id _ _ (rfl))))))
                have hP : va_P (dC, dI) vwCl (WR a k h0 (fT (fT (fT (fT vi 75 (nI wi)) 74 (nI dB)) 21 s280) 22 p280) vj (fT (fT (fT (fT (fT (fT vF 39 (vF 39)) 40 (vF 40)) 41 (vF 41)) 42 (vF 42)) 47 (vF 47)) 48 (vF 48)) vG) H := by rw [e9]; exact hP
                have hD : va_D A (WR a k h0 (fT (fT (fT (fT vi 75 (nI wi)) 74 (nI dB)) 21 s280) 22 p280) vj (fT (fT (fT (fT (fT (fT vF 39 (vF 39)) 40 (vF 40)) 41 (vF 41)) 42 (vF 42)) 47 (vF 47)) 48 (vF 48)) vG) := by rw [e9]; exact hD
                clear e9
                exact W.vret hx hb hr (fun t9_ ht hW => ⟨⟨(s280, p280, (vF 39), (vF 40), (vF 41), (vF 42), (vF 47), (vF 48), dB, wi), rfl, by (try dsimp only); exact ⟨by omega, Or.inl (by omega), fun _ _ => ⟨rfl, rfl, rfl, rfl, rfl⟩, by omega⟩, by rw [ht]; exact hP, hD⟩, hS.F ht⟩) hS.2.2 dX12_begin1_95
            · have t_58 : ¬ (zt).toInt = 0 := toI_neq c_58 rfl (by decide)
              refine lv_aload_n hx hb dX12_begin1_61 rfl (lv_at hl 2 rfl) ?_
              refine lv_bipush (v := 10) hx hb dX12_begin1_62 (by decide) ?_
              have hFc := allFree hD hS hA
              refine va_calli (va_runV (As := [.int 10]) (rest := []) ⟨hx, hb, hml, hown, hts⟩ (r_X12_isKey l dC dI a k h0 vi vj vF vG 10 H.size) (cwV 1 hts gwsRX12_begin1_0 rfl rfl rfl hd_yX12_isKey_RX12 (by decide +kernel)) (fz_pre (va_recv hK hP (ci := 12) (q0 := 0) rfl rfl) hP hK hD) rfl rfl hl.1 rfl (lv_room (Nat.le_of_ble_eq_true rfl)) dX12_begin1_64 (by decide +kernel)) hS (fun q _ h => hFc q h) hFc (fun r64 u t9_ H locs ht hvm hw9 hB9 hz1 hk1 hS => ?_)
              have hP : va_P (dC, dI) vwCl (WR a k h0 vi vj vF vG) H := fz_P ht hB9.1
              have hD : va_D A (WR a k h0 vi vj vF vG) := hB9.2.weaken (fun _ q _ h => hFc q.1 h)
              rcases hw9 with ⟨rfl, f64_0, f64_1⟩ | ⟨rfl, f64_0⟩
              · have f64_0 : (vi 18).toInt = 2 := f64_0
                have f64_1 : (vi 20) = 10 := f64_1
                refine lv_if_ne (tgt := 86) hx hb dX12_begin1_67 (by decide) (fun _ => ?_) (fun c9 => absurd c9 (by decide))
                refine lv_aload_n hx hb dX12_begin1_86 rfl (lv_at hl 2 rfl) ?_
                refine lv_iconst (v := 4) hx hb dX12_begin1_87 (by decide) ?_
                refine lv_aload_n hx hb dX12_begin1_88 rfl (lv_at hl 2 rfl) ?_
                refine va_get (D := (dC, dI)) (ci := 12) (v := .int (vi 19)) (C := RX12) (T := TX12) (N := 163) (fs := fM (vS a vi vj)) hx hb hts iwsRX12_begin1_in12 hown hK hP 0 rfl rfl 19 (by decide) (hts (.fieldLink RX12 488 "OptimaWorksModel" "from" "I") (by decide +kernel)) (fun _ h9 => h9) rfl dX12_begin1_89 ?_
                refine lv_topi (fun y25 hy25 => ?_)
                obtain rfl : (nI fn) = y25 := (hy25.trans (hfr)).symm
                have hFc := allFree hD hS hA
                refine va_callv (va_runV (As := [.int 4, .int (nI fn)]) (rest := []) ⟨hx, hb, hml, hown, hts⟩ (r_X12_faultAt l dC dI a k h0 vi vj vF vG 4 (nI fn) (by first | assumption | decide | omega | rfl) H.size) (cwV 2 hts gwsRX12_begin1_2 rfl rfl rfl hd_yX12_faultAt_RX12 (by decide +kernel)) (fz_pre (va_recv hK hP (ci := 12) (q0 := 0) rfl rfl) hP hK hD) rfl rfl hl.1 rfl (lv_room (Nat.le_of_ble_eq_true rfl)) dX12_begin1_92 (by decide +kernel)) hS (fun q _ h => hFc q h) hFc (fun u t9_ H locs ht hvm hw9 hB9 hz1 hk1 hS => ?_)
                obtain ⟨s292_1, p292_1⟩ := u
                try dsimp only at hw9 hB9
                have hP : va_P (dC, dI) vwCl (WR a k h0 (fT (fT vi 21 s292_1) 22 p292_1) vj vF vG) H := fz_P ht hB9.1
                have hD : va_D A (WR a k h0 (fT (fT vi 21 s292_1) 22 p292_1) vj vF vG) := hB9.2.weaken (fun _ q _ h => hFc q.1 h)
                obtain ⟨f92_1_0, f92_1_1⟩ := hw9
                have f92_1_0 : (0 < (vi 21).toInt ∧ s292_1 = (vi 21) ∧ p292_1 = (vi 22)) ∨ (¬ 0 < (vi 21).toInt ∧ s292_1 = 4 ∧ p292_1 = (nI fn)) := f92_1_0
                refine W.widen (k := 0) (n := 0) (by decide +kernel) (by decide +kernel) ?_
                have e9 : fT (fT (fT (fT vi 75 (nI wi)) 74 (nI dB)) 21 s292_1) 22 p292_1 = fT (fT vi 21 s292_1) 22 p292_1 := by funext q9; by_cases h9_75 : q9 = 75; (subst h9_75; exact ((fT_ne _ _ (Nat.ne_of_beq_eq_false rfl)).trans ((fT_ne _ _ (Nat.ne_of_beq_eq_false rfl)).trans ((fT_ne _ _ (Nat.ne_of_beq_eq_false rfl)).trans (fT_eq _ _ _)))).trans (Eq.trans (by first | rfl | assumption | (symm; assumption) | (subst_vars; rfl)) ((fT_ne _ _ (Nat.ne_of_beq_eq_false rfl)).trans (fT_ne _ _ (Nat.ne_of_beq_eq_false rfl))).symm)); by_cases h9_74 : q9 = 74; (subst h9_74; exact ((fT_ne _ _ (Nat.ne_of_beq_eq_false rfl)).trans ((fT_ne _ _ (Nat.ne_of_beq_eq_false rfl)).trans (fT_eq _ _ _))).trans (Eq.trans (by first | rfl | assumption | (symm; assumption) | (subst_vars; rfl)) ((fT_ne _ _ (Nat.ne_of_beq_eq_false rfl)).trans (fT_ne _ _ (Nat.ne_of_beq_eq_false rfl))).symm)); by_cases h9_21 : q9 = 21; (subst h9_21; exact ((fT_ne _ _ (Nat.ne_of_beq_eq_false rfl)).trans (fT_eq _ _ _)).trans (Eq.trans (by first | rfl | assumption | (symm; assumption) | (subst_vars; rfl)) ((fT_ne _ _ (Nat.ne_of_beq_eq_false rfl)).trans (fT_eq _ _ _)).symm)); by_cases h9_22 : q9 = 22; (subst h9_22; exact (fT_eq _ _ _).trans (Eq.trans (by first | rfl | assumption | (symm; assumption) | (subst_vars; rfl)) (fT_eq _ _ _).symm)); exact ((fT_ne _ _ h9_22).trans ((fT_ne _ _ h9_21).trans ((fT_ne _ _ h9_74).trans (fT_ne _ _ h9_75)))).trans ((fT_ne _ _ h9_22).trans (fT_ne _ _ h9_21)).symm
                have hP : va_P (dC, dI) vwCl (WR a k h0 (fT (fT (fT (fT vi 75 (nI wi)) 74 (nI dB)) 21 s292_1) 22 p292_1) vj vF vG) H := by rw [e9]; exact hP
                have hD : va_D A (WR a k h0 (fT (fT (fT (fT vi 75 (nI wi)) 74 (nI dB)) 21 s292_1) 22 p292_1) vj vF vG) := by rw [e9]; exact hD
                clear e9
                have e9 : fT (fT (fT (fT (fT (fT vF 39 (vF 39)) 40 (vF 40)) 41 (vF 41)) 42 (vF 42)) 47 (vF 47)) 48 (vF 48) = vF := (fT_id _ _ ((fT_ne _ _ (Nat.ne_of_beq_eq_false rfl)).trans ((fT_ne _ _ (Nat.ne_of_beq_eq_false rfl)).trans ((fT_ne _ _ (Nat.ne_of_beq_eq_false rfl)).trans ((fT_ne _ _ (Nat.ne_of_beq_eq_false rfl)).trans (fT_ne _ _ (Nat.ne_of_beq_eq_false rfl))))))).trans ((fT_id _ _ ((fT_ne _ _ (Nat.ne_of_beq_eq_false rfl)).trans ((fT_ne _ _ (Nat.ne_of_beq_eq_false rfl)).trans ((fT_ne _ _ (Nat.ne_of_beq_eq_false rfl)).trans (fT_ne _ _ (Nat.ne_of_beq_eq_false rfl)))))).trans ((fT_id _ _ ((fT_ne _ _ (Nat.ne_of_beq_eq_false rfl)).trans ((fT_ne _ _ (Nat.ne_of_beq_eq_false rfl)).trans (fT_ne _ _ (Nat.ne_of_beq_eq_false rfl))))).trans ((fT_id _ _ ((fT_ne _ _ (Nat.ne_of_beq_eq_false rfl)).trans (fT_ne _ _ (Nat.ne_of_beq_eq_false rfl)))).trans ((fT_id _ _ (fT_ne _ _ (Nat.ne_of_beq_eq_false rfl))).trans (fT_id _ _ (rfl))))))
                have hP : va_P (dC, dI) vwCl (WR a k h0 (fT (fT (fT (fT vi 75 (nI wi)) 74 (nI dB)) 21 s292_1) 22 p292_1) vj (fT (fT (fT (fT (fT (fT vF 39 (vF 39)) 40 (vF 40)) 41 (vF 41)) 42 (vF 42)) 47 (vF 47)) 48 (vF 48)) vG) H := by rw [e9]; exact hP
                have hD : va_D A (WR a k h0 (fT (fT (fT (fT vi 75 (nI wi)) 74 (nI dB)) 21 s292_1) 22 p292_1) vj (fT (fT (fT (fT (fT (fT vF 39 (vF 39)) 40 (vF 40)) 41 (vF 41)) 42 (vF 42)) 47 (vF 47)) 48 (vF 48)) vG) := by rw [e9]; exact hD
                clear e9
                exact W.vret hx hb hr (fun t9_ ht hW => ⟨⟨(s292_1, p292_1, (vF 39), (vF 40), (vF 41), (vF 42), (vF 47), (vF 48), dB, wi), rfl, by (try dsimp only); exact ⟨by omega, Or.inl (by omega), fun _ _ => ⟨rfl, rfl, rfl, rfl, rfl⟩, by omega⟩, by rw [ht]; exact hP, hD⟩, hS.F ht⟩) hS.2.2 dX12_begin1_95
              · have f64_0 : ¬ ((vi 18).toInt = 2 ∧ (vi 20) = 10) := f64_0
                refine lv_if_ne (tgt := 86) hx hb dX12_begin1_67 (by decide) (fun c9 => absurd c9 (by decide)) (fun _ => ?_)
                refine lv_aload_n hx hb dX12_begin1_70 rfl (lv_at hl 2 rfl) ?_
                refine lv_bipush (v := 123) hx hb dX12_begin1_71 (by decide) ?_
                have hFc := allFree hD hS hA
                refine va_calli (va_runV (As := [.int 123]) (rest := []) ⟨hx, hb, hml, hown, hts⟩ (r_X12_isSign l dC dI a k h0 vi vj vF vG 123 H.size) (cwV 1 hts gwsRX12_begin1_3 rfl rfl rfl hd_yX12_isSign_RX12 (by decide +kernel)) (fz_pre (va_recv hK hP (ci := 12) (q0 := 0) rfl rfl) hP hK hD) rfl rfl hl.1 rfl (lv_room (Nat.le_of_ble_eq_true rfl)) dX12_begin1_73 (by decide +kernel)) hS (fun q _ h => hFc q h) hFc (fun r73 u t9_ H locs ht hvm hw9 hB9 hz1 hk1 hS => ?_)
                have hP : va_P (dC, dI) vwCl (WR a k h0 vi vj vF vG) H := fz_P ht hB9.1
                have hD : va_D A (WR a k h0 vi vj vF vG) := hB9.2.weaken (fun _ q _ h => hFc q.1 h)
                rcases hw9 with ⟨rfl, f73_0, f73_1⟩ | ⟨rfl, f73_0⟩
                · have f73_0 : (vi 18).toInt = 4 := f73_0
                  have f73_1 : (vi 20) = 123 := f73_1
                  refine lv_if_ne (tgt := 86) hx hb dX12_begin1_76 (by decide) (fun _ => ?_) (fun c9 => absurd c9 (by decide))
                  refine lv_aload_n hx hb dX12_begin1_86 rfl (lv_at hl 2 rfl) ?_
                  refine lv_iconst (v := 4) hx hb dX12_begin1_87 (by decide) ?_
                  refine lv_aload_n hx hb dX12_begin1_88 rfl (lv_at hl 2 rfl) ?_
                  refine va_get (D := (dC, dI)) (ci := 12) (v := .int (vi 19)) (C := RX12) (T := TX12) (N := 163) (fs := fM (vS a vi vj)) hx hb hts iwsRX12_begin1_in12 hown hK hP 0 rfl rfl 19 (by decide) (hts (.fieldLink RX12 488 "OptimaWorksModel" "from" "I") (by decide +kernel)) (fun _ h9 => h9) rfl dX12_begin1_89 ?_
                  refine lv_topi (fun y26 hy26 => ?_)
                  obtain rfl : (nI fn) = y26 := (hy26.trans (hfr)).symm
                  have hFc := allFree hD hS hA
                  refine va_callv (va_runV (As := [.int 4, .int (nI fn)]) (rest := []) ⟨hx, hb, hml, hown, hts⟩ (r_X12_faultAt l dC dI a k h0 vi vj vF vG 4 (nI fn) (by first | assumption | decide | omega | rfl) H.size) (cwV 2 hts gwsRX12_begin1_2 rfl rfl rfl hd_yX12_faultAt_RX12 (by decide +kernel)) (fz_pre (va_recv hK hP (ci := 12) (q0 := 0) rfl rfl) hP hK hD) rfl rfl hl.1 rfl (lv_room (Nat.le_of_ble_eq_true rfl)) dX12_begin1_92 (by decide +kernel)) hS (fun q _ h => hFc q h) hFc (fun u t9_ H locs ht hvm hw9 hB9 hz1 hk1 hS => ?_)
                  obtain ⟨s292_2, p292_2⟩ := u
                  try dsimp only at hw9 hB9
                  have hP : va_P (dC, dI) vwCl (WR a k h0 (fT (fT vi 21 s292_2) 22 p292_2) vj vF vG) H := fz_P ht hB9.1
                  have hD : va_D A (WR a k h0 (fT (fT vi 21 s292_2) 22 p292_2) vj vF vG) := hB9.2.weaken (fun _ q _ h => hFc q.1 h)
                  obtain ⟨f92_2_0, f92_2_1⟩ := hw9
                  have f92_2_0 : (0 < (vi 21).toInt ∧ s292_2 = (vi 21) ∧ p292_2 = (vi 22)) ∨ (¬ 0 < (vi 21).toInt ∧ s292_2 = 4 ∧ p292_2 = (nI fn)) := f92_2_0
                  refine W.widen (k := 0) (n := 0) (by decide +kernel) (by decide +kernel) ?_
                  have e9 : fT (fT (fT (fT vi 75 (nI wi)) 74 (nI dB)) 21 s292_2) 22 p292_2 = fT (fT vi 21 s292_2) 22 p292_2 := by funext q9; by_cases h9_75 : q9 = 75; (subst h9_75; exact ((fT_ne _ _ (Nat.ne_of_beq_eq_false rfl)).trans ((fT_ne _ _ (Nat.ne_of_beq_eq_false rfl)).trans ((fT_ne _ _ (Nat.ne_of_beq_eq_false rfl)).trans (fT_eq _ _ _)))).trans (Eq.trans (by first | rfl | assumption | (symm; assumption) | (subst_vars; rfl)) ((fT_ne _ _ (Nat.ne_of_beq_eq_false rfl)).trans (fT_ne _ _ (Nat.ne_of_beq_eq_false rfl))).symm)); by_cases h9_74 : q9 = 74; (subst h9_74; exact ((fT_ne _ _ (Nat.ne_of_beq_eq_false rfl)).trans ((fT_ne _ _ (Nat.ne_of_beq_eq_false rfl)).trans (fT_eq _ _ _))).trans (Eq.trans (by first | rfl | assumption | (symm; assumption) | (subst_vars; rfl)) ((fT_ne _ _ (Nat.ne_of_beq_eq_false rfl)).trans (fT_ne _ _ (Nat.ne_of_beq_eq_false rfl))).symm)); by_cases h9_21 : q9 = 21; (subst h9_21; exact ((fT_ne _ _ (Nat.ne_of_beq_eq_false rfl)).trans (fT_eq _ _ _)).trans (Eq.trans (by first | rfl | assumption | (symm; assumption) | (subst_vars; rfl)) ((fT_ne _ _ (Nat.ne_of_beq_eq_false rfl)).trans (fT_eq _ _ _)).symm)); by_cases h9_22 : q9 = 22; (subst h9_22; exact (fT_eq _ _ _).trans (Eq.trans (by first | rfl | assumption | (symm; assumption) | (subst_vars; rfl)) (fT_eq _ _ _).symm)); exact ((fT_ne _ _ h9_22).trans ((fT_ne _ _ h9_21).trans ((fT_ne _ _ h9_74).trans (fT_ne _ _ h9_75)))).trans ((fT_ne _ _ h9_22).trans (fT_ne _ _ h9_21)).symm
                  have hP : va_P (dC, dI) vwCl (WR a k h0 (fT (fT (fT (fT vi 75 (nI wi)) 74 (nI dB)) 21 s292_2) 22 p292_2) vj vF vG) H := by rw [e9]; exact hP
                  have hD : va_D A (WR a k h0 (fT (fT (fT (fT vi 75 (nI wi)) 74 (nI dB)) 21 s292_2) 22 p292_2) vj vF vG) := by rw [e9]; exact hD
                  clear e9
                  have e9 : fT (fT (fT (fT (fT (fT vF 39 (vF 39)) 40 (vF 40)) 41 (vF 41)) 42 (vF 42)) 47 (vF 47)) 48 (vF 48) = vF := (fT_id _ _ ((fT_ne _ _ (Nat.ne_of_beq_eq_false rfl)).trans ((fT_ne _ _ (Nat.ne_of_beq_eq_false rfl)).trans ((fT_ne _ _ (Nat.ne_of_beq_eq_false rfl)).trans ((fT_ne _ _ (Nat.ne_of_beq_eq_false rfl)).trans (fT_ne _ _ (Nat.ne_of_beq_eq_false rfl))))))).trans ((fT_id _ _ ((fT_ne _ _ (Nat.ne_of_beq_eq_false rfl)).trans ((fT_ne _ _ (Nat.ne_of_beq_eq_false rfl)).trans ((fT_ne _ _ (Nat.ne_of_beq_eq_false rfl)).trans (fT_ne _ _ (Nat.ne_of_beq_eq_false rfl)))))).trans ((fT_id _ _ ((fT_ne _ _ (Nat.ne_of_beq_eq_false rfl)).trans ((fT_ne _ _ (Nat.ne_of_beq_eq_false rfl)).trans (fT_ne _ _ (Nat.ne_of_beq_eq_false rfl))))).trans ((fT_id _ _ ((fT_ne _ _ (Nat.ne_of_beq_eq_false rfl)).trans (fT_ne _ _ (Nat.ne_of_beq_eq_false rfl)))).trans ((fT_id _ _ (fT_ne _ _ (Nat.ne_of_beq_eq_false rfl))).trans (fT_id _ _ (rfl))))))
                  have hP : va_P (dC, dI) vwCl (WR a k h0 (fT (fT (fT (fT vi 75 (nI wi)) 74 (nI dB)) 21 s292_2) 22 p292_2) vj (fT (fT (fT (fT (fT (fT vF 39 (vF 39)) 40 (vF 40)) 41 (vF 41)) 42 (vF 42)) 47 (vF 47)) 48 (vF 48)) vG) H := by rw [e9]; exact hP
                  have hD : va_D A (WR a k h0 (fT (fT (fT (fT vi 75 (nI wi)) 74 (nI dB)) 21 s292_2) 22 p292_2) vj (fT (fT (fT (fT (fT (fT vF 39 (vF 39)) 40 (vF 40)) 41 (vF 41)) 42 (vF 42)) 47 (vF 47)) 48 (vF 48)) vG) := by rw [e9]; exact hD
                  clear e9
                  exact W.vret hx hb hr (fun t9_ ht hW => ⟨⟨(s292_2, p292_2, (vF 39), (vF 40), (vF 41), (vF 42), (vF 47), (vF 48), dB, wi), rfl, by (try dsimp only); exact ⟨by omega, Or.inl (by omega), fun _ _ => ⟨rfl, rfl, rfl, rfl, rfl⟩, by omega⟩, by rw [ht]; exact hP, hD⟩, hS.F ht⟩) hS.2.2 dX12_begin1_95
                · have f73_0 : ¬ ((vi 18).toInt = 4 ∧ (vi 20) = 123) := f73_0
                  refine lv_if_ne (tgt := 86) hx hb dX12_begin1_76 (by decide) (fun c9 => absurd c9 (by decide)) (fun _ => ?_)
                  refine lv_aload_n hx hb dX12_begin1_79 rfl (lv_at hl 2 rfl) ?_
                  have hFc := allFree hD hS hA
                  refine va_calli (va_runV (As := []) (rest := []) ⟨hx, hb, hml, hown, hts⟩ (r_X12_canBegin l dC dI a k h0 vi vj vF vG tp an fn nm se pa va bd hTp (by first | assumption | decide | omega | rfl) ha0 hfr (by first | assumption | decide | omega | rfl) (by first | assumption | decide | omega | rfl) hnm (by first | assumption | decide | omega | rfl) (by first | assumption | decide | omega | rfl) (by first | assumption | decide | omega | rfl) hbd (by first | assumption | decide | omega | rfl) (by first | assumption | decide | omega | rfl) H.size) (cwV 0 hts gwsRX12_begin1_1 rfl rfl rfl hd_yX12_canBegin_RX12 (by decide +kernel)) (fz_pre (va_recv hK hP (ci := 12) (q0 := 0) rfl rfl) hP hK hD) rfl rfl hl.1 rfl (lv_room (Nat.le_of_ble_eq_true rfl)) dX12_begin1_80 (by decide +kernel)) hS (fun q _ h => hFc q h) hFc (fun r80_1 u t9_ H locs ht hvm hw9 hB9 hz1 hk1 hS => ?_)
                  obtain ⟨s280_1, p280_1⟩ := u
                  try dsimp only at hw9 hB9
                  have hP : va_P (dC, dI) vwCl (WR a k h0 (fT (fT vi 21 s280_1) 22 p280_1) vj vF vG) H := fz_P ht hB9.1
                  have hD : va_D A (WR a k h0 (fT (fT vi 21 s280_1) 22 p280_1) vj vF vG) := hB9.2.weaken (fun _ q _ h => hFc q.1 h)
                  rcases hw9 with ⟨rfl, f80_1_0, f80_1_1, f80_1_2⟩ | ⟨rfl, f80_1_0⟩
                  · have f80_1_1 : CbW (vi 18) (vi 20) := f80_1_1
                    have f80_1_2 : CbQ (vi 18) (vF 9) (vF 10) (vF 11) (vF 12) (vF 14) (vF 15) fn an nm bd := f80_1_2
                    refine lv_if_eq (tgt := 95) hx hb dX12_begin1_83 (by decide) (fun c9 => absurd c9 (by decide)) (fun _ => ?_)
                    refine lv_aload_n hx hb dX12_begin1_86 rfl (lv_at hl 2 rfl) ?_
                    refine lv_iconst (v := 4) hx hb dX12_begin1_87 (by decide) ?_
                    refine lv_aload_n hx hb dX12_begin1_88 rfl (lv_at hl 2 rfl) ?_
                    refine va_get (D := (dC, dI)) (ci := 12) (v := .int (vi 19)) (C := RX12) (T := TX12) (N := 163) (fs := fM (vS a (fT (fT vi 21 s280_1) 22 p280_1) vj)) hx hb hts iwsRX12_begin1_in12 hown hK hP 0 rfl rfl 19 (by decide) (hts (.fieldLink RX12 488 "OptimaWorksModel" "from" "I") (by decide +kernel)) (fun _ h9 => h9) rfl dX12_begin1_89 ?_
                    refine lv_topi (fun y27 hy27 => ?_)
                    obtain rfl : (nI fn) = y27 := (hy27.trans (hfr)).symm
                    have hFc := allFree hD hS hA
                    refine va_callv (va_runV (As := [.int 4, .int (nI fn)]) (rest := []) ⟨hx, hb, hml, hown, hts⟩ (r_X12_faultAt l dC dI a k h0 (fT (fT vi 21 s280_1) 22 p280_1) vj vF vG 4 (nI fn) (by first | assumption | decide | omega | rfl) H.size) (cwV 2 hts gwsRX12_begin1_2 rfl rfl rfl hd_yX12_faultAt_RX12 (by decide +kernel)) (fz_pre (va_recv hK hP (ci := 12) (q0 := 0) rfl rfl) hP hK hD) rfl rfl hl.1 rfl (lv_room (Nat.le_of_ble_eq_true rfl)) dX12_begin1_92 (by decide +kernel)) hS (fun q _ h => hFc q h) hFc (fun u t9_ H locs ht hvm hw9 hB9 hz1 hk1 hS => ?_)
                    obtain ⟨s292_3, p292_3⟩ := u
                    try dsimp only at hw9 hB9
                    have hP : va_P (dC, dI) vwCl (WR a k h0 (fT (fT (fT (fT vi 21 s280_1) 22 p280_1) 21 s292_3) 22 p292_3) vj vF vG) H := fz_P ht hB9.1
                    have hD : va_D A (WR a k h0 (fT (fT (fT (fT vi 21 s280_1) 22 p280_1) 21 s292_3) 22 p292_3) vj vF vG) := hB9.2.weaken (fun _ q _ h => hFc q.1 h)
                    have e9 : fT (fT vi 21 s292_3) 22 p292_3 = fT (fT (fT (fT vi 21 s280_1) 22 p280_1) 21 s292_3) 22 p292_3 := ((congrArg (fun g9 => fT g9 22 p292_3) ((fT_sw _ _ _ (Nat.ne_of_beq_eq_false rfl)).trans (congrArg (fun g9 => fT g9 22 p280_1) (fT_sm _ _ _ _)))).trans (fT_sm _ _ _ _)).symm
                    rw [← e9] at hP hD
                    clear e9
                    have hP : va_P (dC, dI) vwCl (WR a k h0 (fT (fT vi 21 s292_3) 22 p292_3) vj vF vG) H := hP
                    have hD : va_D A (WR a k h0 (fT (fT vi 21 s292_3) 22 p292_3) vj vF vG) := hD
                    obtain ⟨f92_3_0, f92_3_1⟩ := hw9
                    have f92_3_0 : (0 < s280_1.toInt ∧ s292_3 = s280_1 ∧ p292_3 = p280_1) ∨ (¬ 0 < s280_1.toInt ∧ s292_3 = 4 ∧ p292_3 = (nI fn)) := f92_3_0
                    refine W.widen (k := 0) (n := 0) (by decide +kernel) (by decide +kernel) ?_
                    have e9 : fT (fT (fT (fT vi 75 (nI wi)) 74 (nI dB)) 21 s292_3) 22 p292_3 = fT (fT vi 21 s292_3) 22 p292_3 := by funext q9; by_cases h9_75 : q9 = 75; (subst h9_75; exact ((fT_ne _ _ (Nat.ne_of_beq_eq_false rfl)).trans ((fT_ne _ _ (Nat.ne_of_beq_eq_false rfl)).trans ((fT_ne _ _ (Nat.ne_of_beq_eq_false rfl)).trans (fT_eq _ _ _)))).trans (Eq.trans (by first | rfl | assumption | (symm; assumption) | (subst_vars; rfl)) ((fT_ne _ _ (Nat.ne_of_beq_eq_false rfl)).trans (fT_ne _ _ (Nat.ne_of_beq_eq_false rfl))).symm)); by_cases h9_74 : q9 = 74; (subst h9_74; exact ((fT_ne _ _ (Nat.ne_of_beq_eq_false rfl)).trans ((fT_ne _ _ (Nat.ne_of_beq_eq_false rfl)).trans (fT_eq _ _ _))).trans (Eq.trans (by first | rfl | assumption | (symm; assumption) | (subst_vars; rfl)) ((fT_ne _ _ (Nat.ne_of_beq_eq_false rfl)).trans (fT_ne _ _ (Nat.ne_of_beq_eq_false rfl))).symm)); by_cases h9_21 : q9 = 21; (subst h9_21; exact ((fT_ne _ _ (Nat.ne_of_beq_eq_false rfl)).trans (fT_eq _ _ _)).trans (Eq.trans (by first | rfl | assumption | (symm; assumption) | (subst_vars; rfl)) ((fT_ne _ _ (Nat.ne_of_beq_eq_false rfl)).trans (fT_eq _ _ _)).symm)); by_cases h9_22 : q9 = 22; (subst h9_22; exact (fT_eq _ _ _).trans (Eq.trans (by first | rfl | assumption | (symm; assumption) | (subst_vars; rfl)) (fT_eq _ _ _).symm)); exact ((fT_ne _ _ h9_22).trans ((fT_ne _ _ h9_21).trans ((fT_ne _ _ h9_74).trans (fT_ne _ _ h9_75)))).trans ((fT_ne _ _ h9_22).trans (fT_ne _ _ h9_21)).symm
                    have hP : va_P (dC, dI) vwCl (WR a k h0 (fT (fT (fT (fT vi 75 (nI wi)) 74 (nI dB)) 21 s292_3) 22 p292_3) vj vF vG) H := by rw [e9]; exact hP
                    have hD : va_D A (WR a k h0 (fT (fT (fT (fT vi 75 (nI wi)) 74 (nI dB)) 21 s292_3) 22 p292_3) vj vF vG) := by rw [e9]; exact hD
                    clear e9
                    have e9 : fT (fT (fT (fT (fT (fT vF 39 (vF 39)) 40 (vF 40)) 41 (vF 41)) 42 (vF 42)) 47 (vF 47)) 48 (vF 48) = vF := (fT_id _ _ ((fT_ne _ _ (Nat.ne_of_beq_eq_false rfl)).trans ((fT_ne _ _ (Nat.ne_of_beq_eq_false rfl)).trans ((fT_ne _ _ (Nat.ne_of_beq_eq_false rfl)).trans ((fT_ne _ _ (Nat.ne_of_beq_eq_false rfl)).trans (fT_ne _ _ (Nat.ne_of_beq_eq_false rfl))))))).trans ((fT_id _ _ ((fT_ne _ _ (Nat.ne_of_beq_eq_false rfl)).trans ((fT_ne _ _ (Nat.ne_of_beq_eq_false rfl)).trans ((fT_ne _ _ (Nat.ne_of_beq_eq_false rfl)).trans (fT_ne _ _ (Nat.ne_of_beq_eq_false rfl)))))).trans ((fT_id _ _ ((fT_ne _ _ (Nat.ne_of_beq_eq_false rfl)).trans ((fT_ne _ _ (Nat.ne_of_beq_eq_false rfl)).trans (fT_ne _ _ (Nat.ne_of_beq_eq_false rfl))))).trans ((fT_id _ _ ((fT_ne _ _ (Nat.ne_of_beq_eq_false rfl)).trans (fT_ne _ _ (Nat.ne_of_beq_eq_false rfl)))).trans ((fT_id _ _ (fT_ne _ _ (Nat.ne_of_beq_eq_false rfl))).trans (fT_id _ _ (rfl))))))
                    have hP : va_P (dC, dI) vwCl (WR a k h0 (fT (fT (fT (fT vi 75 (nI wi)) 74 (nI dB)) 21 s292_3) 22 p292_3) vj (fT (fT (fT (fT (fT (fT vF 39 (vF 39)) 40 (vF 40)) 41 (vF 41)) 42 (vF 42)) 47 (vF 47)) 48 (vF 48)) vG) H := by rw [e9]; exact hP
                    have hD : va_D A (WR a k h0 (fT (fT (fT (fT vi 75 (nI wi)) 74 (nI dB)) 21 s292_3) 22 p292_3) vj (fT (fT (fT (fT (fT (fT vF 39 (vF 39)) 40 (vF 40)) 41 (vF 41)) 42 (vF 42)) 47 (vF 47)) 48 (vF 48)) vG) := by rw [e9]; exact hD
                    clear e9
                    exact W.vret hx hb hr (fun t9_ ht hW => ⟨⟨(s292_3, p292_3, (vF 39), (vF 40), (vF 41), (vF 42), (vF 47), (vF 48), dB, wi), rfl, by (try dsimp only); exact ⟨by omega, Or.inl (by omega), fun _ _ => ⟨rfl, rfl, rfl, rfl, rfl⟩, by omega⟩, by rw [ht]; exact hP, hD⟩, hS.F ht⟩) hS.2.2 dX12_begin1_95
                  · refine lv_if_eq (tgt := 95) hx hb dX12_begin1_83 (by decide) (fun _ => ?_) (fun c9 => absurd (by decide) c9)
                    refine W.widen (k := 0) (n := 0) (by decide +kernel) (by decide +kernel) ?_
                    have e9 : fT (fT (fT (fT vi 75 (nI wi)) 74 (nI dB)) 21 s280_1) 22 p280_1 = fT (fT vi 21 s280_1) 22 p280_1 := by funext q9; by_cases h9_75 : q9 = 75; (subst h9_75; exact ((fT_ne _ _ (Nat.ne_of_beq_eq_false rfl)).trans ((fT_ne _ _ (Nat.ne_of_beq_eq_false rfl)).trans ((fT_ne _ _ (Nat.ne_of_beq_eq_false rfl)).trans (fT_eq _ _ _)))).trans (Eq.trans (by first | rfl | assumption | (symm; assumption) | (subst_vars; rfl)) ((fT_ne _ _ (Nat.ne_of_beq_eq_false rfl)).trans (fT_ne _ _ (Nat.ne_of_beq_eq_false rfl))).symm)); by_cases h9_74 : q9 = 74; (subst h9_74; exact ((fT_ne _ _ (Nat.ne_of_beq_eq_false rfl)).trans ((fT_ne _ _ (Nat.ne_of_beq_eq_false rfl)).trans (fT_eq _ _ _))).trans (Eq.trans (by first | rfl | assumption | (symm; assumption) | (subst_vars; rfl)) ((fT_ne _ _ (Nat.ne_of_beq_eq_false rfl)).trans (fT_ne _ _ (Nat.ne_of_beq_eq_false rfl))).symm)); by_cases h9_21 : q9 = 21; (subst h9_21; exact ((fT_ne _ _ (Nat.ne_of_beq_eq_false rfl)).trans (fT_eq _ _ _)).trans (Eq.trans (by first | rfl | assumption | (symm; assumption) | (subst_vars; rfl)) ((fT_ne _ _ (Nat.ne_of_beq_eq_false rfl)).trans (fT_eq _ _ _)).symm)); by_cases h9_22 : q9 = 22; (subst h9_22; exact (fT_eq _ _ _).trans (Eq.trans (by first | rfl | assumption | (symm; assumption) | (subst_vars; rfl)) (fT_eq _ _ _).symm)); exact ((fT_ne _ _ h9_22).trans ((fT_ne _ _ h9_21).trans ((fT_ne _ _ h9_74).trans (fT_ne _ _ h9_75)))).trans ((fT_ne _ _ h9_22).trans (fT_ne _ _ h9_21)).symm
                    have hP : va_P (dC, dI) vwCl (WR a k h0 (fT (fT (fT (fT vi 75 (nI wi)) 74 (nI dB)) 21 s280_1) 22 p280_1) vj vF vG) H := by rw [e9]; exact hP
                    have hD : va_D A (WR a k h0 (fT (fT (fT (fT vi 75 (nI wi)) 74 (nI dB)) 21 s280_1) 22 p280_1) vj vF vG) := by rw [e9]; exact hD
                    clear e9
                    have e9 : fT (fT (fT (fT (fT (fT vF 39 (vF 39)) 40 (vF 40)) 41 (vF 41)) 42 (vF 42)) 47 (vF 47)) 48 (vF 48) = vF := (fT_id _ _ ((fT_ne _ _ (Nat.ne_of_beq_eq_false rfl)).trans ((fT_ne _ _ (Nat.ne_of_beq_eq_false rfl)).trans ((fT_ne _ _ (Nat.ne_of_beq_eq_false rfl)).trans ((fT_ne _ _ (Nat.ne_of_beq_eq_false rfl)).trans (fT_ne _ _ (Nat.ne_of_beq_eq_false rfl))))))).trans ((fT_id _ _ ((fT_ne _ _ (Nat.ne_of_beq_eq_false rfl)).trans ((fT_ne _ _ (Nat.ne_of_beq_eq_false rfl)).trans ((fT_ne _ _ (Nat.ne_of_beq_eq_false rfl)).trans (fT_ne _ _ (Nat.ne_of_beq_eq_false rfl)))))).trans ((fT_id _ _ ((fT_ne _ _ (Nat.ne_of_beq_eq_false rfl)).trans ((fT_ne _ _ (Nat.ne_of_beq_eq_false rfl)).trans (fT_ne _ _ (Nat.ne_of_beq_eq_false rfl))))).trans ((fT_id _ _ ((fT_ne _ _ (Nat.ne_of_beq_eq_false rfl)).trans (fT_ne _ _ (Nat.ne_of_beq_eq_false rfl)))).trans ((fT_id _ _ (fT_ne _ _ (Nat.ne_of_beq_eq_false rfl))).trans (fT_id _ _ (rfl))))))
                    have hP : va_P (dC, dI) vwCl (WR a k h0 (fT (fT (fT (fT vi 75 (nI wi)) 74 (nI dB)) 21 s280_1) 22 p280_1) vj (fT (fT (fT (fT (fT (fT vF 39 (vF 39)) 40 (vF 40)) 41 (vF 41)) 42 (vF 42)) 47 (vF 47)) 48 (vF 48)) vG) H := by rw [e9]; exact hP
                    have hD : va_D A (WR a k h0 (fT (fT (fT (fT vi 75 (nI wi)) 74 (nI dB)) 21 s280_1) 22 p280_1) vj (fT (fT (fT (fT (fT (fT vF 39 (vF 39)) 40 (vF 40)) 41 (vF 41)) 42 (vF 42)) 47 (vF 47)) 48 (vF 48)) vG) := by rw [e9]; exact hD
                    clear e9
                    exact W.vret hx hb hr (fun t9_ ht hW => ⟨⟨(s280_1, p280_1, (vF 39), (vF 40), (vF 41), (vF 42), (vF 47), (vF 48), dB, wi), rfl, by (try dsimp only); exact ⟨by omega, Or.inl (by omega), fun _ _ => ⟨rfl, rfl, rfl, rfl, rfl⟩, by omega⟩, by rw [ht]; exact hP, hD⟩, hS.F ht⟩) hS.2.2 dX12_begin1_95
  · have t_4 : ¬ ((vi 21)).toInt ≤ 0 := toI_nle c_4 rfl (by decide)
    refine W.widen (k := 0) (n := 0) (by decide +kernel) (by decide +kernel) ?_
    have e9 : fT (fT (fT (fT vi 75 (nI wi)) 74 (nI dB)) 21 (vi 21)) 22 (vi 22) = vi := by funext q9; by_cases h9_75 : q9 = 75; (subst h9_75; exact ((fT_ne _ _ (Nat.ne_of_beq_eq_false rfl)).trans ((fT_ne _ _ (Nat.ne_of_beq_eq_false rfl)).trans ((fT_ne _ _ (Nat.ne_of_beq_eq_false rfl)).trans (fT_eq _ _ _)))).trans (Eq.trans (by first | rfl | assumption | (symm; assumption) | (subst_vars; rfl)) (Eq.refl _).symm)); by_cases h9_74 : q9 = 74; (subst h9_74; exact ((fT_ne _ _ (Nat.ne_of_beq_eq_false rfl)).trans ((fT_ne _ _ (Nat.ne_of_beq_eq_false rfl)).trans (fT_eq _ _ _))).trans (Eq.trans (by first | rfl | assumption | (symm; assumption) | (subst_vars; rfl)) (Eq.refl _).symm)); by_cases h9_21 : q9 = 21; (subst h9_21; exact ((fT_ne _ _ (Nat.ne_of_beq_eq_false rfl)).trans (fT_eq _ _ _)).trans (Eq.trans (by first | rfl | assumption | (symm; assumption) | (subst_vars; rfl)) (Eq.refl _).symm)); by_cases h9_22 : q9 = 22; (subst h9_22; exact (fT_eq _ _ _).trans (Eq.trans (by first | rfl | assumption | (symm; assumption) | (subst_vars; rfl)) (Eq.refl _).symm)); exact ((fT_ne _ _ h9_22).trans ((fT_ne _ _ h9_21).trans ((fT_ne _ _ h9_74).trans (fT_ne _ _ h9_75)))).trans (Eq.refl _).symm
    have hP : va_P (dC, dI) vwCl (WR a k h0 (fT (fT (fT (fT vi 75 (nI wi)) 74 (nI dB)) 21 (vi 21)) 22 (vi 22)) vj vF vG) s.heap := by rw [e9]; exact hP
    have hD : va_D A (WR a k h0 (fT (fT (fT (fT vi 75 (nI wi)) 74 (nI dB)) 21 (vi 21)) 22 (vi 22)) vj vF vG) := by rw [e9]; exact hD
    clear e9
    have e9 : fT (fT (fT (fT (fT (fT vF 39 (vF 39)) 40 (vF 40)) 41 (vF 41)) 42 (vF 42)) 47 (vF 47)) 48 (vF 48) = vF := (fT_id _ _ ((fT_ne _ _ (Nat.ne_of_beq_eq_false rfl)).trans ((fT_ne _ _ (Nat.ne_of_beq_eq_false rfl)).trans ((fT_ne _ _ (Nat.ne_of_beq_eq_false rfl)).trans ((fT_ne _ _ (Nat.ne_of_beq_eq_false rfl)).trans (fT_ne _ _ (Nat.ne_of_beq_eq_false rfl))))))).trans ((fT_id _ _ ((fT_ne _ _ (Nat.ne_of_beq_eq_false rfl)).trans ((fT_ne _ _ (Nat.ne_of_beq_eq_false rfl)).trans ((fT_ne _ _ (Nat.ne_of_beq_eq_false rfl)).trans (fT_ne _ _ (Nat.ne_of_beq_eq_false rfl)))))).trans ((fT_id _ _ ((fT_ne _ _ (Nat.ne_of_beq_eq_false rfl)).trans ((fT_ne _ _ (Nat.ne_of_beq_eq_false rfl)).trans (fT_ne _ _ (Nat.ne_of_beq_eq_false rfl))))).trans ((fT_id _ _ ((fT_ne _ _ (Nat.ne_of_beq_eq_false rfl)).trans (fT_ne _ _ (Nat.ne_of_beq_eq_false rfl)))).trans ((fT_id _ _ (fT_ne _ _ (Nat.ne_of_beq_eq_false rfl))).trans (fT_id _ _ (rfl))))))
    have hP : va_P (dC, dI) vwCl (WR a k h0 (fT (fT (fT (fT vi 75 (nI wi)) 74 (nI dB)) 21 (vi 21)) 22 (vi 22)) vj (fT (fT (fT (fT (fT (fT vF 39 (vF 39)) 40 (vF 40)) 41 (vF 41)) 42 (vF 42)) 47 (vF 47)) 48 (vF 48)) vG) s.heap := by rw [e9]; exact hP
    have hD : va_D A (WR a k h0 (fT (fT (fT (fT vi 75 (nI wi)) 74 (nI dB)) 21 (vi 21)) 22 (vi 22)) vj (fT (fT (fT (fT (fT (fT vF 39 (vF 39)) 40 (vF 40)) 41 (vF 41)) 42 (vF 42)) 47 (vF 47)) 48 (vF 48)) vG) := by rw [e9]; exact hD
    clear e9
    exact W.vret hx hb hr (fun t9_ ht hW => ⟨⟨((vi 21), (vi 22), (vF 39), (vF 40), (vF 41), (vF 42), (vF 47), (vF 48), dB, wi), rfl, by (try dsimp only); exact ⟨hst0, Or.inl (by omega), fun _ _ => ⟨rfl, rfl, rfl, rfl, rfl⟩, by omega⟩, by rw [ht]; exact hP, hD⟩, hS.F ht⟩) hS.2.2 dX12_begin1_7
theorem dX12_closeSum_0 : decode cX12_closeSum 0 = .ok (.aload_n 0, 1) := dk_42 (by decide +kernel)
theorem dX12_closeSum_1 : decode cX12_closeSum 1 = .ok (.bipush 125, 2) := dk_16 (by decide +kernel)
theorem dX12_closeSum_3 : decode cX12_closeSum 3 = .ok (.invokevirtual 611, 3) := dk_182 (by decide +kernel)
theorem dX12_closeSum_6 : decode cX12_closeSum 6 = .ok (.ifCond .ne 4, 3) := dk_154 (by decide +kernel)
theorem dX12_closeSum_9 : decode cX12_closeSum 9 = .ok (.return_, 1) := dk_177 (by decide +kernel)
theorem dX12_closeSum_10 : decode cX12_closeSum 10 = .ok (.aload_n 0, 1) := dk_42 (by decide +kernel)
theorem dX12_closeSum_11 : decode cX12_closeSum 11 = .ok (.getfield 143, 3) := dk_180 (by decide +kernel)
theorem dX12_closeSum_14 : decode cX12_closeSum 14 = .ok (.iload_n 1, 1) := dk_27 (by decide +kernel)
theorem dX12_closeSum_15 : decode cX12_closeSum 15 = .ok (.bipush 6, 2) := dk_16 (by decide +kernel)
theorem dX12_closeSum_17 : decode cX12_closeSum 17 = .ok (.iastore, 1) := dk_79 (by decide +kernel)
theorem dX12_closeSum_18 : decode cX12_closeSum 18 = .ok (.aload_n 0, 1) := dk_42 (by decide +kernel)
theorem dX12_closeSum_19 : decode cX12_closeSum 19 = .ok (.iconst 1, 1) := dk_4 (by decide +kernel)
theorem dX12_closeSum_20 : decode cX12_closeSum 20 = .ok (.invokevirtual 586, 3) := dk_182 (by decide +kernel)
theorem dX12_closeSum_23 : decode cX12_closeSum 23 = .ok (.return_, 1) := dk_177 (by decide +kernel)
def wsRX12_closeSum : List Cond := .code yX12_closeSum cX12_closeSum 2 none :: ([.fieldLink RX12 143 "OptimaWorksModel" "step" "[I"] ++ wsX120 ++ (wsV RX12 611 RX12 yX12_needSign wsRX12_needSign) ++ (wsV RX12 586 RX12 yX12_begin1 wsRX12_begin1))
theorem iwsRX12_closeSum_in12 : ∀ w ∈ wsX120, w ∈ wsRX12_closeSum := fun _ h => List.mem_cons_of_mem _ (List.mem_append_left _ (List.mem_append_left _ (List.mem_append_right _ h)))
theorem gwsRX12_closeSum_0 : GoodIn wsRX12_closeSum (wsV RX12 611 RX12 yX12_needSign wsRX12_needSign) := goodIn_sub (fun _ h => List.mem_cons_of_mem _ (List.mem_append_left _ (List.mem_append_right _ h))) (gdV (by decide +kernel) gdwsRX12_needSign)
theorem gwsRX12_closeSum_1 : GoodIn wsRX12_closeSum (wsV RX12 586 RX12 yX12_begin1 wsRX12_begin1) := goodIn_sub (fun _ h => List.mem_cons_of_mem _ (List.mem_append_right _ h)) (gdV (by decide +kernel) gdwsRX12_begin1)
theorem gdwsRX12_closeSum : wsRX12_closeSum.all goodWord = true := gdC rfl (gdA (gdA (gdA (by decide +kernel : ([.fieldLink RX12 143 "OptimaWorksModel" "step" "[I"] : List Cond).all goodWord = true) gdwsX120) (gdV (by decide +kernel) gdwsRX12_needSign)) (gdV (by decide +kernel) gdwsRX12_begin1))
set_option maxHeartbeats 4000000 in
set_option maxRecDepth 100000 in
/-- closeSum(d) -/
theorem r_X12_closeSum (l : Launch) (dC : Nat → ClassId) (dI : Nat → Nat → Nat) (a : Nat → Nat) (k : Nat → ClassId) (h0 : Nat) (vi : Nat → Int32) (vj : Nat → Int64) (vF : Nat → Nat → Int32) (vG : Nat → Nat → Int64) (dN : Nat) (tp : Nat) (an : Nat) (fn : Nat) (nm : Nat) (se : Nat) (pa : Nat) (va : Nat) (bd : Nat) (wi : Nat) (hdN : dN < 119) (hTp : vi 16 = nI tp) (htp : tp ≤ 4000) (ha0 : vi 17 = nI an) (hfr : vi 19 = nI fn) (hLx : LxO tp fn an (vi 18) (vi 20)) (hst0 : 0 ≤ (vi 21).toInt) (hnm : vi 25 = nI nm) (hnm40 : nm ≤ 40) (hno : NmO (vF 11) (vF 12) nm) (hNk : NkO (vF 10) (vF 13) nm se pa va) (hbd : vi 30 = nI bd) (hbd60 : bd ≤ 60) (hbo : NmO (vF 14) (vF 15) 60) (hdp : vi 74 = nI (dN + 1)) (hwi : vi 75 = nI wi) (hwi9 : wi ≤ 25) (sz : Nat) : Met l yX12_closeSum wsRX12_closeSum ({ frames := 9, cells := 0, slots := 0, locals := 194 }) (va_Pc [.ref h0, .int (nI dN)] (fun U => U.heap.size = sz ∧ va_P (dC, dI) vwCl (WR a k h0 vi vj vF vG) U.heap ∧ va_K (dC, dI) vwCl (tX12 k) U ∧ va_D (fun _ => True) (WR a k h0 vi vj vF vG) ∧ StrA (va_A (WR a k h0 vi vj vF vG) sz) U U.heap)) (va_Qv (fun (u : (Nat) × (Nat) × (Int32) × (Int32) × (Int32) × (Int32) × (Nat → Int32) × (Nat → Int32) × (Nat → Int32) × (Nat → Int32) × (Nat → Int32) × (Nat → Int32) × (Nat) × (Nat)) => (LxO tp (u.2.1) (u.1) (u.2.2.2.1) (u.2.2.1)) ∧ (fn ≤ (u.2.1)) ∧ (0 ≤ ((u.2.2.2.2.1)).toInt) ∧ (0 < ((u.2.2.2.2.1)).toInt ∨ ((u.2.2.2.2.1) = 0 ∧ fn < (u.2.1) ∧ BgO 1 (u.2.2.2.1) (u.2.2.1) (u.2.2.2.2.2.2.1) (u.2.2.2.2.2.2.2.1) (u.2.2.2.2.2.2.2.2.1) (u.2.2.2.2.2.2.2.2.2.1) (u.2.2.2.2.2.2.2.2.2.2.2.1) (dN + 1) wi (u.2.2.2.2.2.2.2.2.2.2.2.2.1) (u.2.2.2.2.2.2.2.2.2.2.2.2.2) ∧ FrmO (dN + 1) (vF 39) (upd (vF 40) (nI dN).toNatClampNeg 6) (vF 41) (vF 42) (vF 48) (u.2.2.2.2.2.2.1) (u.2.2.2.2.2.2.2.1) (u.2.2.2.2.2.2.2.2.1) (u.2.2.2.2.2.2.2.2.2.1) (u.2.2.2.2.2.2.2.2.2.2.2.1))) ∧ ((u.2.2.2.2.2.2.2.2.2.2.2.2.1) ≤ dN + 2)) (fun (u : (Nat) × (Nat) × (Int32) × (Int32) × (Int32) × (Int32) × (Nat → Int32) × (Nat → Int32) × (Nat → Int32) × (Nat → Int32) × (Nat → Int32) × (Nat → Int32) × (Nat) × (Nat)) t => va_P (dC, dI) vwCl (WR a k h0 (fT (fT (fT (fT (fT (fT (fT (fT vi 17 (nI (u.1))) 19 (nI (u.2.1))) 20 (u.2.2.1)) 18 (u.2.2.2.1)) 21 (u.2.2.2.2.1)) 22 (u.2.2.2.2.2.1)) 75 (nI (u.2.2.2.2.2.2.2.2.2.2.2.2.2))) 74 (nI (u.2.2.2.2.2.2.2.2.2.2.2.2.1))) vj (fT (fT (fT (fT (fT (fT vF 40 (u.2.2.2.2.2.2.2.1)) 39 (u.2.2.2.2.2.2.1)) 41 (u.2.2.2.2.2.2.2.2.1)) 42 (u.2.2.2.2.2.2.2.2.2.1)) 47 (u.2.2.2.2.2.2.2.2.2.2.1)) 48 (u.2.2.2.2.2.2.2.2.2.2.2.1)) vG) t.heap ∧ va_D (va_A (WR a k h0 vi vj vF vG) sz) (WR a k h0 (fT (fT (fT (fT (fT (fT (fT (fT vi 17 (nI (u.1))) 19 (nI (u.2.1))) 20 (u.2.2.1)) 18 (u.2.2.2.1)) 21 (u.2.2.2.2.1)) 22 (u.2.2.2.2.2.1)) 75 (nI (u.2.2.2.2.2.2.2.2.2.2.2.2.2))) 74 (nI (u.2.2.2.2.2.2.2.2.2.2.2.2.1))) vj (fT (fT (fT (fT (fT (fT vF 40 (u.2.2.2.2.2.2.2.1)) 39 (u.2.2.2.2.2.2.1)) 41 (u.2.2.2.2.2.2.2.2.1)) 42 (u.2.2.2.2.2.2.2.2.2.1)) 47 (u.2.2.2.2.2.2.2.2.2.2.1)) 48 (u.2.2.2.2.2.2.2.2.2.2.2.1)) vG)) (va_A (WR a k h0 vi vj vF vG) sz)) 0 0 (va_A (WR a k h0 vi vj vF vG) sz) := by
  refine Met.ofW (cc := cX12_closeSum) (maxL := 2) (ret := none) (by decide) rfl ?_
  intro p e s m args below meth c s₁ B hml hv
  obtain ⟨rfl, hsz, hP, hK, hD0, hE⟩ := hv
  have hx := B.exec
  have hb := B.bytes
  have hr := B.returns
  have hts := atoms_spec (ws := wsRX12_closeSum) B.pre
  have hown : s.vm.findClass RX12 = some m.cls := findClass_of_methodNamed B.named
  have hlocks := B.notSynchronized
  subst hsz
  have hD := hD0.self (sz := s.heap.size)
  generalize hAe : va_A (WR a k h0 vi vj vF vG) s.heap.size = A at hD hE ⊢
  have hA : ∀ q : Nat, s.heap.size ≤ q → A q := fun q h => by rw [← hAe]; exact Or.inr h
  have hS : va_S A s.heap s.heap [] := va_S.rf
  have hl := lv_entry ([.ref h0, .int (nI dN)]) (n := 2) (Nat.le_of_ble_eq_true rfl)
  rw [lg_entry_eq]
  generalize (lg_sl ([.ref h0, .int (nI dN)]) ++ List.replicate (2 - (lg_sl ([.ref h0, .int (nI dN)])).length) Slot.unset).toArray = ls at hl ⊢
  have hl : lv_has ls 2 [(0, .ref h0), (1, .int (nI dN))] := hl
  have hfa := hLx.1
  have han := hLx.2.1
  have han4 : an ≤ 4000 := by omega
  refine lv_aload_n hx hb dX12_closeSum_0 rfl (lv_at hl 0 rfl) ?_
  refine lv_bipush (v := 125) hx hb dX12_closeSum_1 (by decide) ?_
  have hFc := allFree hD hS hA
  refine va_calli (va_runV (As := [.int 125]) (rest := []) ⟨hx, hb, hml, hown, hts⟩ (r_X12_needSign l dC dI a k h0 vi vj vF vG 125 tp an fn hTp (by first | assumption | decide | omega | rfl) ha0 hfr (by first | assumption | decide | omega | rfl) (by first | assumption | decide | omega | rfl) s.heap.size) (cwV 1 hts gwsRX12_closeSum_0 rfl rfl rfl hd_yX12_needSign_RX12 (by decide +kernel)) (fz_preE (va_recv hK hP (ci := 12) (q0 := 0) rfl rfl) hP hK hD (fun a U g mk qE => qE.same rfl) (fun U hU9 hW => by rw [hU9]; exact (((hE : StrA A s s.heap).kept hS.2.1).narrow (fun q h => hFc q h)).warm hW)) rfl rfl hl.1 rfl (lv_room (Nat.le_of_ble_eq_true rfl)) dX12_closeSum_3 (by decide +kernel)) hS (fun q _ h => hFc q h) hFc (fun r3 u t9_ H locs ht hvm hw9 hB9 hz1 hk1 hS => ?_)
  obtain ⟨a23, f23, sg3, wd3, s23, p23⟩ := u
  try dsimp only at hw9 hB9
  have hP : va_P (dC, dI) vwCl (WR a k h0 (fT (fT (fT (fT (fT (fT vi 17 (nI a23)) 19 (nI f23)) 20 sg3) 18 wd3) 21 s23) 22 p23) vj vF vG) H := fz_P ht hB9.1
  have hD : va_D A (WR a k h0 (fT (fT (fT (fT (fT (fT vi 17 (nI a23)) 19 (nI f23)) 20 sg3) 18 wd3) 21 s23) 22 p23) vj vF vG) := hB9.2.weaken (fun _ q _ h => hFc q.1 h)
  rcases hw9 with ⟨rfl, f3_0, f3_1, f3_2, f3_3⟩ | ⟨rfl, f3_0, f3_1, f3_2⟩
  · have f3_3 : (vi 21) = 0 := f3_3
    refine lv_if_ne (tgt := 10) hx hb dX12_closeSum_6 (by decide) (fun _ => ?_) (fun c9 => absurd c9 (by decide))
    refine lv_aload_n hx hb dX12_closeSum_10 rfl (lv_at hl 0 rfl) ?_
    refine va_get (D := (dC, dI)) (ci := 12) (v := .ref (a 40)) (C := RX12) (T := TX12) (N := 163) (fs := fM (vS a (fT (fT (fT (fT (fT (fT vi 17 (nI a23)) 19 (nI f23)) 20 sg3) 18 wd3) 21 s23) 22 p23) vj)) hx hb hts iwsRX12_closeSum_in12 hown hK hP 0 rfl rfl 65 (by decide) (hts (.fieldLink RX12 143 "OptimaWorksModel" "step" "[I") (by decide +kernel)) (fun _ h9 => h9) rfl dX12_closeSum_11 ?_
    refine lv_iload_n hx hb dX12_closeSum_14 rfl (lv_at hl 1 rfl) ?_
    refine lv_bipush (v := 6) hx hb dX12_closeSum_15 (by decide) ?_
    refine va_iast (cA := k 40) (n := 120) (f := (vF 40)) hx hb hK hP hD hS 41 40 (WR_get 40 (by decide)) (TR_get 40 (by decide)) (vp_in_nI (show dN < 120 by omega) (by omega)) dX12_closeSum_17 (fun H locs hP hD hS => ?_)
    have hP : va_P (dC, dI) vwCl (WR a k h0 (fT (fT (fT (fT (fT (fT vi 17 (nI a23)) 19 (nI f23)) 20 sg3) 18 wd3) 21 s23) 22 p23) vj (fT vF 40 (upd (vF 40) ((nI dN)).toNatClampNeg 6)) vG) H := by rw [← WR_F 40 (by decide) _ rfl]; exact hP
    have hD : va_D A (WR a k h0 (fT (fT (fT (fT (fT (fT vi 17 (nI a23)) 19 (nI f23)) 20 sg3) 18 wd3) 21 s23) 22 p23) vj (fT vF 40 (upd (vF 40) ((nI dN)).toNatClampNeg 6)) vG) := by rw [← WR_F 40 (by decide) _ rfl]; exact hD
    refine lv_aload_n hx hb dX12_closeSum_18 rfl (lv_at hl 0 rfl) ?_
    refine lv_iconst (v := 1) hx hb dX12_closeSum_19 (by decide) ?_
    have hFc := allFree hD hS hA
    refine va_callv (va_runV (As := [.int 1]) (rest := []) ⟨hx, hb, hml, hown, hts⟩ (r_X12_begin1 l dC dI a k h0 (fT (fT (fT (fT (fT (fT vi 17 (nI a23)) 19 (nI f23)) 20 sg3) 18 wd3) 21 s23) 22 p23) vj (fT vF 40 (upd (vF 40) ((nI dN)).toNatClampNeg 6)) vG 1 tp a23 f23 nm se pa va bd (dN + 1) wi hTp (by first | assumption | decide | omega | rfl) rfl rfl (f3_1) ((show 0 ≤ (s23).toInt by rw [f3_0]; decide)) hnm (by first | assumption | decide | omega | rfl) (by first | assumption | decide | omega | rfl) (by first | assumption | decide | omega | rfl) hbd (by first | assumption | decide | omega | rfl) (by first | assumption | decide | omega | rfl) (hdp) (by first | assumption | decide | omega | rfl) hwi (by first | assumption | decide | omega | rfl) H.size) (cwV 1 hts gwsRX12_closeSum_1 rfl rfl rfl hd_yX12_begin1_RX12 (by decide +kernel)) (fz_pre (va_recv hK hP (ci := 12) (q0 := 0) rfl rfl) hP hK hD) rfl rfl hl.1 rfl (lv_room (Nat.le_of_ble_eq_true rfl)) dX12_closeSum_20 (by decide +kernel)) hS (fun q _ h => hFc q h) hFc (fun u t9_ H locs ht hvm hw9 hB9 hz1 hk1 hS => ?_)
    obtain ⟨s220, p220, g3920, g4020, g4120, g4220, g4720, g4820, d220, w220⟩ := u
    try dsimp only at hw9 hB9
    have hP : va_P (dC, dI) vwCl (WR a k h0 (fT (fT (fT (fT (fT (fT (fT (fT (fT (fT vi 17 (nI a23)) 19 (nI f23)) 20 sg3) 18 wd3) 21 s23) 22 p23) 75 (nI w220)) 74 (nI d220)) 21 s220) 22 p220) vj (fT (fT (fT (fT (fT (fT (fT vF 40 (upd (vF 40) ((nI dN)).toNatClampNeg 6)) 39 g3920) 40 g4020) 41 g4120) 42 g4220) 47 g4720) 48 g4820) vG) H := fz_P ht hB9.1
    have hD : va_D A (WR a k h0 (fT (fT (fT (fT (fT (fT (fT (fT (fT (fT vi 17 (nI a23)) 19 (nI f23)) 20 sg3) 18 wd3) 21 s23) 22 p23) 75 (nI w220)) 74 (nI d220)) 21 s220) 22 p220) vj (fT (fT (fT (fT (fT (fT (fT vF 40 (upd (vF 40) ((nI dN)).toNatClampNeg 6)) 39 g3920) 40 g4020) 41 g4120) 42 g4220) 47 g4720) 48 g4820) vG) := hB9.2.weaken (fun _ q _ h => hFc q.1 h)
    have e9 : fT (fT (fT (fT (fT (fT (fT (fT vi 17 (nI a23)) 19 (nI f23)) 20 sg3) 18 wd3) 21 s220) 22 p220) 75 (nI w220)) 74 (nI d220) = fT (fT (fT (fT (fT (fT (fT (fT (fT (fT vi 17 (nI a23)) 19 (nI f23)) 20 sg3) 18 wd3) 21 s23) 22 p23) 75 (nI w220)) 74 (nI d220)) 21 s220) 22 p220 := ((congrArg (fun g9 => fT g9 22 p220) ((fT_sw _ _ _ (Nat.ne_of_beq_eq_false rfl)).trans (congrArg (fun g9 => fT g9 74 (nI d220)) ((fT_sw _ _ _ (Nat.ne_of_beq_eq_false rfl)).trans (congrArg (fun g9 => fT g9 75 (nI w220)) ((fT_sw _ _ _ (Nat.ne_of_beq_eq_false rfl)).trans (congrArg (fun g9 => fT g9 22 p23) (fT_sm _ _ _ _)))))))).trans ((fT_sw _ _ _ (Nat.ne_of_beq_eq_false rfl)).trans (congrArg (fun g9 => fT g9 74 (nI d220)) ((fT_sw _ _ _ (Nat.ne_of_beq_eq_false rfl)).trans (congrArg (fun g9 => fT g9 75 (nI w220)) (fT_sm _ _ _ _)))))).symm
    rw [← e9] at hP hD
    clear e9
    have e9 : fT (fT (fT (fT (fT (fT vF 40 g4020) 39 g3920) 41 g4120) 42 g4220) 47 g4720) 48 g4820 = fT (fT (fT (fT (fT (fT (fT vF 40 (upd (vF 40) ((nI dN)).toNatClampNeg 6)) 39 g3920) 40 g4020) 41 g4120) 42 g4220) 47 g4720) 48 g4820 := (congrArg (fun g9 => fT (fT (fT (fT g9 41 g4120) 42 g4220) 47 g4720) 48 g4820) ((fT_sw _ _ _ (Nat.ne_of_beq_eq_false rfl)).trans (congrArg (fun g9 => fT g9 39 g3920) (fT_sm _ _ _ _)))).symm
    rw [← e9] at hP hD
    clear e9
    have hP : va_P (dC, dI) vwCl (WR a k h0 (fT (fT (fT (fT (fT (fT (fT (fT vi 17 (nI a23)) 19 (nI f23)) 20 sg3) 18 wd3) 21 s220) 22 p220) 75 (nI w220)) 74 (nI d220)) vj (fT (fT (fT (fT (fT (fT vF 40 g4020) 39 g3920) 41 g4120) 42 g4220) 47 g4720) 48 g4820) vG) H := hP
    have hD : va_D A (WR a k h0 (fT (fT (fT (fT (fT (fT (fT (fT vi 17 (nI a23)) 19 (nI f23)) 20 sg3) 18 wd3) 21 s220) 22 p220) 75 (nI w220)) 74 (nI d220)) vj (fT (fT (fT (fT (fT (fT vF 40 g4020) 39 g3920) 41 g4120) 42 g4220) 47 g4720) 48 g4820) vG) := hD
    obtain ⟨f20_0, f20_1, f20_2, f20_3⟩ := hw9
    have f20_1 : 0 < (s220).toInt ∨ (s220 = s23 ∧ BgO 1 wd3 sg3 g3920 g4020 g4120 g4220 g4820 (dN + 1) wi d220 w220) := f20_1
    have f20_2 : FrmO (dN + 1) (vF 39) (upd (vF 40) ((nI dN)).toNatClampNeg 6) (vF 41) (vF 42) (vF 48) g3920 g4020 g4120 g4220 g4820 := f20_2
    refine W.widen (k := 0) (n := 0) (by decide +kernel) (by decide +kernel) ?_
    exact W.vret hx hb hr (fun t9_ ht hW => ⟨⟨(a23, f23, sg3, wd3, s220, p220, g3920, g4020, g4120, g4220, g4720, g4820, d220, w220), rfl, by (try dsimp only); exact ⟨f3_1, by omega, f20_0, by rcases f20_1 with h9 | h9; (exact Or.inl h9); (exact Or.inr ⟨h9.1.trans f3_0, by omega, h9.2, f20_2⟩), by omega⟩, by rw [ht]; exact hP, hD⟩, hS.F ht⟩) hS.2.2 dX12_closeSum_23
  · refine lv_if_ne (tgt := 10) hx hb dX12_closeSum_6 (by decide) (fun c9 => absurd c9 (by decide)) (fun _ => ?_)
    refine W.widen (k := 0) (n := 0) (by decide +kernel) (by decide +kernel) ?_
    have e9 : fT (fT (fT (fT (fT (fT (fT (fT vi 17 (nI a23)) 19 (nI f23)) 20 sg3) 18 wd3) 21 s23) 22 p23) 75 (nI wi)) 74 (nI (dN + 1)) = fT (fT (fT (fT (fT (fT vi 17 (nI a23)) 19 (nI f23)) 20 sg3) 18 wd3) 21 s23) 22 p23 := by funext q9; by_cases h9_17 : q9 = 17; (subst h9_17; exact ((fT_ne _ _ (Nat.ne_of_beq_eq_false rfl)).trans ((fT_ne _ _ (Nat.ne_of_beq_eq_false rfl)).trans ((fT_ne _ _ (Nat.ne_of_beq_eq_false rfl)).trans ((fT_ne _ _ (Nat.ne_of_beq_eq_false rfl)).trans ((fT_ne _ _ (Nat.ne_of_beq_eq_false rfl)).trans ((fT_ne _ _ (Nat.ne_of_beq_eq_false rfl)).trans ((fT_ne _ _ (Nat.ne_of_beq_eq_false rfl)).trans (fT_eq _ _ _)))))))).trans (Eq.trans (by first | rfl | assumption | (symm; assumption) | (subst_vars; rfl)) ((fT_ne _ _ (Nat.ne_of_beq_eq_false rfl)).trans ((fT_ne _ _ (Nat.ne_of_beq_eq_false rfl)).trans ((fT_ne _ _ (Nat.ne_of_beq_eq_false rfl)).trans ((fT_ne _ _ (Nat.ne_of_beq_eq_false rfl)).trans ((fT_ne _ _ (Nat.ne_of_beq_eq_false rfl)).trans (fT_eq _ _ _)))))).symm)); by_cases h9_19 : q9 = 19; (subst h9_19; exact ((fT_ne _ _ (Nat.ne_of_beq_eq_false rfl)).trans ((fT_ne _ _ (Nat.ne_of_beq_eq_false rfl)).trans ((fT_ne _ _ (Nat.ne_of_beq_eq_false rfl)).trans ((fT_ne _ _ (Nat.ne_of_beq_eq_false rfl)).trans ((fT_ne _ _ (Nat.ne_of_beq_eq_false rfl)).trans ((fT_ne _ _ (Nat.ne_of_beq_eq_false rfl)).trans (fT_eq _ _ _))))))).trans (Eq.trans (by first | rfl | assumption | (symm; assumption) | (subst_vars; rfl)) ((fT_ne _ _ (Nat.ne_of_beq_eq_false rfl)).trans ((fT_ne _ _ (Nat.ne_of_beq_eq_false rfl)).trans ((fT_ne _ _ (Nat.ne_of_beq_eq_false rfl)).trans ((fT_ne _ _ (Nat.ne_of_beq_eq_false rfl)).trans (fT_eq _ _ _))))).symm)); by_cases h9_20 : q9 = 20; (subst h9_20; exact ((fT_ne _ _ (Nat.ne_of_beq_eq_false rfl)).trans ((fT_ne _ _ (Nat.ne_of_beq_eq_false rfl)).trans ((fT_ne _ _ (Nat.ne_of_beq_eq_false rfl)).trans ((fT_ne _ _ (Nat.ne_of_beq_eq_false rfl)).trans ((fT_ne _ _ (Nat.ne_of_beq_eq_false rfl)).trans (fT_eq _ _ _)))))).trans (Eq.trans (by first | rfl | assumption | (symm; assumption) | (subst_vars; rfl)) ((fT_ne _ _ (Nat.ne_of_beq_eq_false rfl)).trans ((fT_ne _ _ (Nat.ne_of_beq_eq_false rfl)).trans ((fT_ne _ _ (Nat.ne_of_beq_eq_false rfl)).trans (fT_eq _ _ _)))).symm)); by_cases h9_18 : q9 = 18; (subst h9_18; exact ((fT_ne _ _ (Nat.ne_of_beq_eq_false rfl)).trans ((fT_ne _ _ (Nat.ne_of_beq_eq_false rfl)).trans ((fT_ne _ _ (Nat.ne_of_beq_eq_false rfl)).trans ((fT_ne _ _ (Nat.ne_of_beq_eq_false rfl)).trans (fT_eq _ _ _))))).trans (Eq.trans (by first | rfl | assumption | (symm; assumption) | (subst_vars; rfl)) ((fT_ne _ _ (Nat.ne_of_beq_eq_false rfl)).trans ((fT_ne _ _ (Nat.ne_of_beq_eq_false rfl)).trans (fT_eq _ _ _))).symm)); by_cases h9_21 : q9 = 21; (subst h9_21; exact ((fT_ne _ _ (Nat.ne_of_beq_eq_false rfl)).trans ((fT_ne _ _ (Nat.ne_of_beq_eq_false rfl)).trans ((fT_ne _ _ (Nat.ne_of_beq_eq_false rfl)).trans (fT_eq _ _ _)))).trans (Eq.trans (by first | rfl | assumption | (symm; assumption) | (subst_vars; rfl)) ((fT_ne _ _ (Nat.ne_of_beq_eq_false rfl)).trans (fT_eq _ _ _)).symm)); by_cases h9_22 : q9 = 22; (subst h9_22; exact ((fT_ne _ _ (Nat.ne_of_beq_eq_false rfl)).trans ((fT_ne _ _ (Nat.ne_of_beq_eq_false rfl)).trans (fT_eq _ _ _))).trans (Eq.trans (by first | rfl | assumption | (symm; assumption) | (subst_vars; rfl)) (fT_eq _ _ _).symm)); by_cases h9_75 : q9 = 75; (subst h9_75; exact ((fT_ne _ _ (Nat.ne_of_beq_eq_false rfl)).trans (fT_eq _ _ _)).trans (Eq.trans (by first | rfl | assumption | (symm; assumption) | (subst_vars; rfl)) ((fT_ne _ _ (Nat.ne_of_beq_eq_false rfl)).trans ((fT_ne _ _ (Nat.ne_of_beq_eq_false rfl)).trans ((fT_ne _ _ (Nat.ne_of_beq_eq_false rfl)).trans ((fT_ne _ _ (Nat.ne_of_beq_eq_false rfl)).trans ((fT_ne _ _ (Nat.ne_of_beq_eq_false rfl)).trans (fT_ne _ _ (Nat.ne_of_beq_eq_false rfl))))))).symm)); by_cases h9_74 : q9 = 74; (subst h9_74; exact (fT_eq _ _ _).trans (Eq.trans (by first | rfl | assumption | (symm; assumption) | (subst_vars; rfl)) ((fT_ne _ _ (Nat.ne_of_beq_eq_false rfl)).trans ((fT_ne _ _ (Nat.ne_of_beq_eq_false rfl)).trans ((fT_ne _ _ (Nat.ne_of_beq_eq_false rfl)).trans ((fT_ne _ _ (Nat.ne_of_beq_eq_false rfl)).trans ((fT_ne _ _ (Nat.ne_of_beq_eq_false rfl)).trans (fT_ne _ _ (Nat.ne_of_beq_eq_false rfl))))))).symm)); exact ((fT_ne _ _ h9_74).trans ((fT_ne _ _ h9_75).trans ((fT_ne _ _ h9_22).trans ((fT_ne _ _ h9_21).trans ((fT_ne _ _ h9_18).trans ((fT_ne _ _ h9_20).trans ((fT_ne _ _ h9_19).trans (fT_ne _ _ h9_17)))))))).trans ((fT_ne _ _ h9_22).trans ((fT_ne _ _ h9_21).trans ((fT_ne _ _ h9_18).trans ((fT_ne _ _ h9_20).trans ((fT_ne _ _ h9_19).trans (fT_ne _ _ h9_17)))))).symm
    have hP : va_P (dC, dI) vwCl (WR a k h0 (fT (fT (fT (fT (fT (fT (fT (fT vi 17 (nI a23)) 19 (nI f23)) 20 sg3) 18 wd3) 21 s23) 22 p23) 75 (nI wi)) 74 (nI (dN + 1))) vj vF vG) H := by rw [e9]; exact hP
    have hD : va_D A (WR a k h0 (fT (fT (fT (fT (fT (fT (fT (fT vi 17 (nI a23)) 19 (nI f23)) 20 sg3) 18 wd3) 21 s23) 22 p23) 75 (nI wi)) 74 (nI (dN + 1))) vj vF vG) := by rw [e9]; exact hD
    clear e9
    have e9 : fT (fT (fT (fT (fT (fT vF 40 (vF 40)) 39 (vF 39)) 41 (vF 41)) 42 (vF 42)) 47 (vF 47)) 48 (vF 48) = vF := (fT_id _ _ ((fT_ne _ _ (Nat.ne_of_beq_eq_false rfl)).trans ((fT_ne _ _ (Nat.ne_of_beq_eq_false rfl)).trans ((fT_ne _ _ (Nat.ne_of_beq_eq_false rfl)).trans ((fT_ne _ _ (Nat.ne_of_beq_eq_false rfl)).trans (fT_ne _ _ (Nat.ne_of_beq_eq_false rfl))))))).trans ((fT_id _ _ ((fT_ne _ _ (Nat.ne_of_beq_eq_false rfl)).trans ((fT_ne _ _ (Nat.ne_of_beq_eq_false rfl)).trans ((fT_ne _ _ (Nat.ne_of_beq_eq_false rfl)).trans (fT_ne _ _ (Nat.ne_of_beq_eq_false rfl)))))).trans ((fT_id _ _ ((fT_ne _ _ (Nat.ne_of_beq_eq_false rfl)).trans ((fT_ne _ _ (Nat.ne_of_beq_eq_false rfl)).trans (fT_ne _ _ (Nat.ne_of_beq_eq_false rfl))))).trans ((fT_id _ _ ((fT_ne _ _ (Nat.ne_of_beq_eq_false rfl)).trans (fT_ne _ _ (Nat.ne_of_beq_eq_false rfl)))).trans ((fT_id _ _ (fT_ne _ _ (Nat.ne_of_beq_eq_false rfl))).trans (fT_id _ _ (rfl))))))
    have hP : va_P (dC, dI) vwCl (WR a k h0 (fT (fT (fT (fT (fT (fT (fT (fT vi 17 (nI a23)) 19 (nI f23)) 20 sg3) 18 wd3) 21 s23) 22 p23) 75 (nI wi)) 74 (nI (dN + 1))) vj (fT (fT (fT (fT (fT (fT vF 40 (vF 40)) 39 (vF 39)) 41 (vF 41)) 42 (vF 42)) 47 (vF 47)) 48 (vF 48)) vG) H := by rw [e9]; exact hP
    have hD : va_D A (WR a k h0 (fT (fT (fT (fT (fT (fT (fT (fT vi 17 (nI a23)) 19 (nI f23)) 20 sg3) 18 wd3) 21 s23) 22 p23) 75 (nI wi)) 74 (nI (dN + 1))) vj (fT (fT (fT (fT (fT (fT vF 40 (vF 40)) 39 (vF 39)) 41 (vF 41)) 42 (vF 42)) 47 (vF 47)) 48 (vF 48)) vG) := by rw [e9]; exact hD
    clear e9
    exact W.vret hx hb hr (fun t9_ ht hW => ⟨⟨(a23, f23, sg3, wd3, s23, p23, (vF 39), (vF 40), (vF 41), (vF 42), (vF 47), (vF 48), (dN + 1), wi), rfl, by (try dsimp only); exact ⟨f3_1, by omega, by omega, Or.inl f3_0, by omega⟩, by rw [ht]; exact hP, hD⟩, hS.F ht⟩) hS.2.2 dX12_closeSum_9

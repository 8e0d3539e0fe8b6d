section
theorem hd_yX12_canBegin_RX12 : yX12_canBegin.cls = RX12 ∧ yX12_canBegin.cls ≠ "java/lang/invoke/MethodHandle" ∧ yX12_canBegin.cls ≠ "java/lang/invoke/VarHandle" ∧ (parseMethodDescriptor yX12_canBegin.desc).map (fun d => d.parameters.length) = some 0 := by decide +kernel
theorem hd_yX12_begin1_RX12 : yX12_begin1.cls = RX12 ∧ yX12_begin1.cls ≠ "java/lang/invoke/MethodHandle" ∧ yX12_begin1.cls ≠ "java/lang/invoke/VarHandle" ∧ (parseMethodDescriptor yX12_begin1.desc).map (fun d => d.parameters.length) = some 1 := by decide +kernel
def wsRend1w : List Cond := .code yX12_end1 cX12_end1 2 none :: ([.fieldLink RX12 577 "OptimaWorksModel" "deep" "I", .fieldLink RX12 570 "OptimaWorksModel" "within" "I", .fieldLink RX12 167 "OptimaWorksModel" "extra" "[I", .fieldLink RX12 580 "OptimaWorksModel" "result" "I", .fieldLink RX12 164 "OptimaWorksModel" "begins" "[I", .fieldLink RX12 583 "OptimaWorksModel" "resultFirst" "I"] ++ wsX120)
theorem iwsRend1w_in12 : ∀ w ∈ wsX120, w ∈ wsRend1w := fun _ h => List.mem_cons_of_mem _ (List.mem_append_right _ h)
theorem gdwsRend1w : wsRend1w.all goodWord = true := gdC rfl (gdA (by decide +kernel : ([.fieldLink RX12 577 "OptimaWorksModel" "deep" "I", .fieldLink RX12 570 "OptimaWorksModel" "within" "I", .fieldLink RX12 167 "OptimaWorksModel" "extra" "[I", .fieldLink RX12 580 "OptimaWorksModel" "result" "I", .fieldLink RX12 164 "OptimaWorksModel" "begins" "[I", .fieldLink RX12 583 "OptimaWorksModel" "resultFirst" "I"] : List Cond).all goodWord = true) gdwsX120)
theorem hm_r_X12_end1w_0 : (.fieldLink RX12 577 "OptimaWorksModel" "deep" "I" : Cond) ∈ wsRend1w := by decide +kernel
theorem hm_r_X12_end1w_1 : (.fieldLink RX12 570 "OptimaWorksModel" "within" "I" : Cond) ∈ wsRend1w := by decide +kernel
set_option maxHeartbeats 4000000 in
set_option maxRecDepth 100000 in
/-- end1(r), with its depth -/
theorem r_X12_end1w (l : Launch) (dC : Nat → ClassId) (dI : Nat → Nat → Nat) (a : Nat → Nat) (k : Nat → ClassId) (h0 : Nat) (vi : Nat → Int32) (vj : Nat → Int64) (vF : Nat → Nat → Int32) (vG : Nat → Nat → Int64) (rv : Int32) (dE : Nat) (wi : Nat) (xE : Nat) (hdE : vi 74 = nI (dE + 1)) (hdE9 : dE < 120) (hwi : vi 75 = nI wi) (hwi9 : wi ≤ 25) (hxE : vF 48 dE = nI xE) (hxw : xE ≤ wi) (sz : Nat) : Met l yX12_end1 wsRend1w ({ frames := 0, cells := 0, slots := 0, locals := 0 }) (va_Pc [.ref h0, .int rv] (fun U => U.heap.size = sz ∧ va_P (dC, dI) vwCl (WR a k h0 vi vj vF vG) U.heap ∧ va_K (dC, dI) vwCl (tX12 k) U ∧ va_D (fun _ => True) (WR a k h0 vi vj vF vG))) (va_Qv (fun (u : Unit) => True) (fun (u : Unit) t => va_P (dC, dI) vwCl (WR a k h0 (fT (fT (fT (fT vi 74 (nI dE)) 75 (nI (wi - xE))) 76 rv) 77 (vF 47 dE)) vj vF vG) t.heap ∧ va_D (va_A (WR a k h0 vi vj vF vG) sz) (WR a k h0 (fT (fT (fT (fT vi 74 (nI dE)) 75 (nI (wi - xE))) 76 rv) 77 (vF 47 dE)) vj vF vG)) (va_A (WR a k h0 vi vj vF vG) sz)) 0 0 (va_A (WR a k h0 vi vj vF vG) sz) := by
  refine Met.ofW (cc := cX12_end1) (maxL := 2) (ret := none) (by decide) rfl ?_
  intro p e s m args below meth c s₁ B hml hv
  obtain ⟨rfl, hsz, hP, hK, hD0⟩ := hv
  have hx := B.exec
  have hb := B.bytes
  have hr := B.returns
  have hts := atoms_spec (ws := wsRend1w) B.pre
  have hown : s.vm.findClass RX12 = some m.cls := findClass_of_methodNamed B.named
  have hlocks := B.notSynchronized
  subst hsz
  have hD := hD0.self (sz := s.heap.size)
  generalize hAe : va_A (WR a k h0 vi vj vF vG) s.heap.size = A at hD ⊢
  have hA : ∀ q : Nat, s.heap.size ≤ q → A q := fun q h => by rw [← hAe]; exact Or.inr h
  have hS : va_S A s.heap s.heap [] := va_S.rf
  have hl := lv_entry ([.ref h0, .int rv]) (n := 2) (Nat.le_of_ble_eq_true rfl)
  rw [lg_entry_eq]
  generalize (lg_sl ([.ref h0, .int rv]) ++ List.replicate (2 - (lg_sl ([.ref h0, .int rv])).length) Slot.unset).toArray = ls at hl ⊢
  have hl : lv_has ls 2 [(0, .ref h0), (1, .int rv)] := hl
  refine lv_aload_n hx hb dX12_end1_0 rfl (lv_at hl 0 rfl) ?_
  refine lv_dup hx hb dX12_end1_1 rfl ?_
  refine va_get (D := (dC, dI)) (ci := 12) (v := .int (vi 74)) (C := RX12) (T := TX12) (N := 163) (fs := fM (vS a vi vj)) hx hb hts iwsRend1w_in12 hown hK hP 0 rfl rfl 74 (by decide) (hts _ hm_r_X12_end1w_0) (fun _ h9 => h9) rfl dX12_end1_2 ?_
  refine lv_topi (fun y1 hy1 => ?_)
  obtain rfl : (nI (dE + 1)) = y1 := (hy1.trans (hdE)).symm
  refine lv_iconst (v := 1) hx hb dX12_end1_5 (by decide) ?_
  refine lv_isub hx hb dX12_end1_6 ?_
  refine lv_topi (fun y2 hy2 => ?_)
  obtain rfl : (nI ((dE + 1) - 1)) = y2 := (hy2.trans (pk_sub (a := (dE + 1)) (b := 1) (by omega))).symm
  refine va_put (D := (dC, dI)) (ci := 12) (v := .int (nI ((dE + 1) - 1))) (ty := .int) (C := RX12) (T := TX12) (N := 163) (fs := fM (vS a vi vj)) hx hb hts iwsRend1w_in12 tyX12 tyX12_ok nmX12 hown hK hP hD hS 0 rfl rfl 74 (by decide) (hts _ hm_r_X12_end1w_0) (fun _ h9 => h9) rfl (by decide +kernel) rfl rfl (Nat.le_of_ble_eq_true rfl) dX12_end1_7 (fun H locs hP hD hS => ?_)
  have hP : va_P (dC, dI) vwCl (WR a k h0 (fT vi 74 (nI ((dE + 1) - 1))) vj vF vG) H := fz_w (WR_i 74 _ rfl) hP
  have hD : va_D A (WR a k h0 (fT vi 74 (nI ((dE + 1) - 1))) vj vF vG) := fz_wD (WR_i 74 _ rfl) hD
  refine lv_aload_n hx hb dX12_end1_10 rfl (lv_at hl 0 rfl) ?_
  refine lv_dup hx hb dX12_end1_11 rfl ?_
  refine va_get (D := (dC, dI)) (ci := 12) (v := .int (vi 75)) (C := RX12) (T := TX12) (N := 163) (fs := fM (vS a (fT vi 74 (nI ((dE + 1) - 1))) vj)) hx hb hts iwsRend1w_in12 hown hK hP 0 rfl rfl 75 (by decide) (hts _ hm_r_X12_end1w_1) (fun _ h9 => h9) rfl dX12_end1_12 ?_
  refine lv_topi (fun y3 hy3 => ?_)
  obtain rfl : (nI wi) = y3 := (hy3.trans (hwi)).symm
  refine lv_aload_n hx hb dX12_end1_15 rfl (lv_at hl 0 rfl) ?_
  refine va_get (D := (dC, dI)) (ci := 12) (v := .ref (a 48)) (C := RX12) (T := TX12) (N := 163) (fs := fM (vS a (fT vi 74 (nI ((dE + 1) - 1))) vj)) hx hb hts iwsRend1w_in12 hown hK hP 0 rfl rfl 73 (by decide) (hts (.fieldLink RX12 167 "OptimaWorksModel" "extra" "[I") (by decide +kernel)) (fun _ h9 => h9) rfl dX12_end1_16 ?_
  refine lv_aload_n hx hb dX12_end1_19 rfl (lv_at hl 0 rfl) ?_
  refine va_get (D := (dC, dI)) (ci := 12) (v := .int (nI ((dE + 1) - 1))) (C := RX12) (T := TX12) (N := 163) (fs := fM (vS a (fT vi 74 (nI ((dE + 1) - 1))) vj)) hx hb hts iwsRend1w_in12 hown hK hP 0 rfl rfl 74 (by decide) (hts _ hm_r_X12_end1w_0) (fun _ h9 => h9) rfl dX12_end1_20 ?_
  refine va_iald (cA := k 48) (n := 120) (f := (vF 48)) hx hb hK hP 49 48 (WR_get 48 (by decide)) (TR_get 48 (by decide)) (vp_in_nI (show ((dE + 1) - 1) < 120 by omega) (by omega)) dX12_end1_23 ?_
  refine lv_topi (fun y4 hy4 => ?_)
  obtain rfl : ((vF 48) ((dE + 1) - 1)) = y4 := (hy4.trans (by rw [nI_clamp (by omega)])).symm
  refine lv_topi (fun y5 hy5 => ?_)
  obtain rfl : (nI xE) = y5 := (hy5.trans (hxE)).symm
  refine lv_isub hx hb dX12_end1_24 ?_
  refine lv_topi (fun y6 hy6 => ?_)
  obtain rfl : (nI (wi - xE)) = y6 := (hy6.trans (pk_sub (a := wi) (b := xE) (by omega))).symm
  refine va_put (D := (dC, dI)) (ci := 12) (v := .int (nI (wi - xE))) (ty := .int) (C := RX12) (T := TX12) (N := 163) (fs := fM (vS a (fT vi 74 (nI ((dE + 1) - 1))) vj)) hx hb hts iwsRend1w_in12 tyX12 tyX12_ok nmX12 hown hK hP hD hS 0 rfl rfl 75 (by decide) (hts _ hm_r_X12_end1w_1) (fun _ h9 => h9) rfl (by decide +kernel) rfl rfl (Nat.le_of_ble_eq_true rfl) dX12_end1_25 (fun H locs hP hD hS => ?_)
  have hP : va_P (dC, dI) vwCl (WR a k h0 (fT (fT vi 74 (nI ((dE + 1) - 1))) 75 (nI (wi - xE))) vj vF vG) H := fz_w (WR_i 75 _ rfl) hP
  have hD : va_D A (WR a k h0 (fT (fT vi 74 (nI ((dE + 1) - 1))) 75 (nI (wi - xE))) vj vF vG) := fz_wD (WR_i 75 _ rfl) hD
  refine lv_aload_n hx hb dX12_end1_28 rfl (lv_at hl 0 rfl) ?_
  refine lv_iload_n hx hb dX12_end1_29 rfl (lv_at hl 1 rfl) ?_
  refine va_put (D := (dC, dI)) (ci := 12) (v := .int rv) (ty := .int) (C := RX12) (T := TX12) (N := 163) (fs := fM (vS a (fT (fT vi 74 (nI ((dE + 1) - 1))) 75 (nI (wi - xE))) vj)) hx hb hts iwsRend1w_in12 tyX12 tyX12_ok nmX12 hown hK hP hD hS 0 rfl rfl 76 (by decide) (hts (.fieldLink RX12 580 "OptimaWorksModel" "result" "I") (by decide +kernel)) (fun _ h9 => h9) rfl (by decide +kernel) rfl rfl (Nat.le_of_ble_eq_true rfl) dX12_end1_30 (fun H locs hP hD hS => ?_)
  have hP : va_P (dC, dI) vwCl (WR a k h0 (fT (fT (fT vi 74 (nI ((dE + 1) - 1))) 75 (nI (wi - xE))) 76 rv) vj vF vG) H := fz_w (WR_i 76 _ rfl) hP
  have hD : va_D A (WR a k h0 (fT (fT (fT vi 74 (nI ((dE + 1) - 1))) 75 (nI (wi - xE))) 76 rv) vj vF vG) := fz_wD (WR_i 76 _ rfl) hD
  refine lv_aload_n hx hb dX12_end1_33 rfl (lv_at hl 0 rfl) ?_
  refine lv_aload_n hx hb dX12_end1_34 rfl (lv_at hl 0 rfl) ?_
  refine va_get (D := (dC, dI)) (ci := 12) (v := .ref (a 47)) (C := RX12) (T := TX12) (N := 163) (fs := fM (vS a (fT (fT (fT vi 74 (nI ((dE + 1) - 1))) 75 (nI (wi - xE))) 76 rv) vj)) hx hb hts iwsRend1w_in12 hown hK hP 0 rfl rfl 72 (by decide) (hts (.fieldLink RX12 164 "OptimaWorksModel" "begins" "[I") (by decide +kernel)) (fun _ h9 => h9) rfl dX12_end1_35 ?_
  refine lv_aload_n hx hb dX12_end1_38 rfl (lv_at hl 0 rfl) ?_
  refine va_get (D := (dC, dI)) (ci := 12) (v := .int (nI ((dE + 1) - 1))) (C := RX12) (T := TX12) (N := 163) (fs := fM (vS a (fT (fT (fT vi 74 (nI ((dE + 1) - 1))) 75 (nI (wi - xE))) 76 rv) vj)) hx hb hts iwsRend1w_in12 hown hK hP 0 rfl rfl 74 (by decide) (hts _ hm_r_X12_end1w_0) (fun _ h9 => h9) rfl dX12_end1_39 ?_
  refine va_iald (cA := k 47) (n := 120) (f := (vF 47)) hx hb hK hP 48 47 (WR_get 47 (by decide)) (TR_get 47 (by decide)) (vp_in_nI (show ((dE + 1) - 1) < 120 by omega) (by omega)) dX12_end1_42 ?_
  refine lv_topi (fun y7 hy7 => ?_)
  obtain rfl : ((vF 47) ((dE + 1) - 1)) = y7 := (hy7.trans (by rw [nI_clamp (by omega)])).symm
  refine va_put (D := (dC, dI)) (ci := 12) (v := .int ((vF 47) ((dE + 1) - 1))) (ty := .int) (C := RX12) (T := TX12) (N := 163) (fs := fM (vS a (fT (fT (fT vi 74 (nI ((dE + 1) - 1))) 75 (nI (wi - xE))) 76 rv) vj)) hx hb hts iwsRend1w_in12 tyX12 tyX12_ok nmX12 hown hK hP hD hS 0 rfl rfl 77 (by decide) (hts (.fieldLink RX12 583 "OptimaWorksModel" "resultFirst" "I") (by decide +kernel)) (fun _ h9 => h9) rfl (by decide +kernel) rfl rfl (Nat.le_of_ble_eq_true rfl) dX12_end1_43 (fun H locs hP hD hS => ?_)
  have hP : va_P (dC, dI) vwCl (WR a k h0 (fT (fT (fT (fT vi 74 (nI ((dE + 1) - 1))) 75 (nI (wi - xE))) 76 rv) 77 ((vF 47) ((dE + 1) - 1))) vj vF vG) H := fz_w (WR_i 77 _ rfl) hP
  have hD : va_D A (WR a k h0 (fT (fT (fT (fT vi 74 (nI ((dE + 1) - 1))) 75 (nI (wi - xE))) 76 rv) 77 ((vF 47) ((dE + 1) - 1))) vj vF vG) := fz_wD (WR_i 77 _ rfl) hD
  refine W.widen (k := 0) (n := 0) (by decide +kernel) (by decide +kernel) ?_
  have e9 : fT (fT (fT (fT vi 74 (nI dE)) 75 (nI (wi - xE))) 76 rv) 77 (vF 47 dE) = fT (fT (fT (fT vi 74 (nI ((dE + 1) - 1))) 75 (nI (wi - xE))) 76 rv) 77 ((vF 47) ((dE + 1) - 1)) := ch_E vi [nI dE, nI (wi - xE), rv, vF 47 dE, nI ((dE + 1) - 1), (vF 47) ((dE + 1) - 1)] [(77, 4), (76, 3), (75, 2), (74, 1)] [(77, 6), (76, 3), (75, 2), (74, 5)] [74, 77] ⟨show nI dE = nI ((dE + 1) - 1) from (by first | with_reducible rfl | with_reducible assumption | (symm; with_reducible assumption) | rfl | assumption | (symm; assumption) | (subst_vars; rfl)), show vF 47 dE = (vF 47) ((dE + 1) - 1) from (by first | with_reducible rfl | with_reducible assumption | (symm; with_reducible assumption) | rfl | assumption | (symm; assumption) | (subst_vars; rfl)), trivial⟩ (by decide +kernel)
  have hP := wr_Pi e9 hP
  have hD := wr_Di e9 hD
  clear e9
  exact W.vret hx hb hr (fun t9_ ht hW => ⟨⟨(), rfl, trivial, by rw [ht]; exact hP, hD⟩, hS.F ht⟩) hS.2.2 dX12_end1_46
theorem dX12_begin1_0 : decode cX12_begin1 0 = .ok (.aload_n 0, 1) := dk_42 (by decide +kernel)
theorem dX12_begin1_1 : decode cX12_begin1 1 = .ok (.getfield 515, 3) := dk_180 (by decide +kernel)
theorem dX12_begin1_4 : decode cX12_begin1 4 = .ok (.ifCond .le 4, 3) := dk_158 (by decide +kernel)
theorem dX12_begin1_7 : decode cX12_begin1 7 = .ok (.return_, 1) := dk_177 (by decide +kernel)
theorem dX12_begin1_8 : decode cX12_begin1 8 = .ok (.iload_n 1, 1) := dk_27 (by decide +kernel)
theorem dX12_begin1_9 : decode cX12_begin1 9 = .ok (.iconst 3, 1) := dk_6 (by decide +kernel)
theorem dX12_begin1_10 : decode cX12_begin1 10 = .ok (.if_icmp .ne 12, 3) := dk_160 (by decide +kernel)
theorem dX12_begin1_13 : decode cX12_begin1 13 = .ok (.aload_n 0, 1) := dk_42 (by decide +kernel)
theorem dX12_begin1_14 : decode cX12_begin1 14 = .ok (.bipush 10, 2) := dk_16 (by decide +kernel)
theorem dX12_begin1_16 : decode cX12_begin1 16 = .ok (.invokevirtual 530, 3) := dk_182 (by decide +kernel)
theorem dX12_begin1_19 : decode cX12_begin1 19 = .ok (.ifCond .eq 7, 3) := dk_153 (by decide +kernel)
theorem dX12_begin1_22 : decode cX12_begin1 22 = .ok (.iconst 1, 1) := dk_4 (by decide +kernel)
theorem dX12_begin1_23 : decode cX12_begin1 23 = .ok (.goto 4, 3) := dk_167 (by decide +kernel)
theorem dX12_begin1_26 : decode cX12_begin1 26 = .ok (.iconst 0, 1) := dk_3 (by decide +kernel)
theorem dX12_begin1_27 : decode cX12_begin1 27 = .ok (.istore_n 2, 1) := dk_61 (by decide +kernel)
theorem dX12_begin1_28 : decode cX12_begin1 28 = .ok (.iload_n 2, 1) := dk_28 (by decide +kernel)
theorem dX12_begin1_29 : decode cX12_begin1 29 = .ok (.ifCond .eq 67, 3) := dk_153 (by decide +kernel)
theorem dX12_begin1_32 : decode cX12_begin1 32 = .ok (.aload_n 0, 1) := dk_42 (by decide +kernel)
theorem dX12_begin1_33 : decode cX12_begin1 33 = .ok (.getfield 570, 3) := dk_180 (by decide +kernel)
theorem dX12_begin1_36 : decode cX12_begin1 36 = .ok (.bipush 25, 2) := dk_16 (by decide +kernel)
theorem dX12_begin1_38 : decode cX12_begin1 38 = .ok (.if_icmp .ne 58, 3) := dk_160 (by decide +kernel)
theorem dX12_begin1_41 : decode cX12_begin1 41 = .ok (.iload_n 1, 1) := dk_27 (by decide +kernel)
theorem dX12_begin1_42 : decode cX12_begin1 42 = .ok (.iconst 2, 1) := dk_5 (by decide +kernel)
theorem dX12_begin1_43 : decode cX12_begin1 43 = .ok (.if_icmp .eq 8, 3) := dk_159 (by decide +kernel)
theorem dX12_begin1_46 : decode cX12_begin1 46 = .ok (.iload_n 1, 1) := dk_27 (by decide +kernel)
theorem dX12_begin1_47 : decode cX12_begin1 47 = .ok (.iconst 3, 1) := dk_6 (by decide +kernel)
theorem dX12_begin1_48 : decode cX12_begin1 48 = .ok (.if_icmp .ne 7, 3) := dk_160 (by decide +kernel)
theorem dX12_begin1_51 : decode cX12_begin1 51 = .ok (.iconst 1, 1) := dk_4 (by decide +kernel)
theorem dX12_begin1_52 : decode cX12_begin1 52 = .ok (.goto 4, 3) := dk_167 (by decide +kernel)
theorem dX12_begin1_55 : decode cX12_begin1 55 = .ok (.iconst 0, 1) := dk_3 (by decide +kernel)
theorem dX12_begin1_56 : decode cX12_begin1 56 = .ok (.istore_n 3, 1) := dk_62 (by decide +kernel)
theorem dX12_begin1_57 : decode cX12_begin1 57 = .ok (.iload_n 3, 1) := dk_29 (by decide +kernel)
theorem dX12_begin1_58 : decode cX12_begin1 58 = .ok (.ifCond .eq 21, 3) := dk_153 (by decide +kernel)
theorem dX12_begin1_61 : decode cX12_begin1 61 = .ok (.aload_n 0, 1) := dk_42 (by decide +kernel)
theorem dX12_begin1_62 : decode cX12_begin1 62 = .ok (.bipush 10, 2) := dk_16 (by decide +kernel)
theorem dX12_begin1_64 : decode cX12_begin1 64 = .ok (.invokevirtual 530, 3) := dk_182 (by decide +kernel)
theorem dX12_begin1_67 : decode cX12_begin1 67 = .ok (.ifCond .ne 19, 3) := dk_154 (by decide +kernel)
theorem dX12_begin1_70 : decode cX12_begin1 70 = .ok (.aload_n 0, 1) := dk_42 (by decide +kernel)
theorem dX12_begin1_71 : decode cX12_begin1 71 = .ok (.bipush 123, 2) := dk_16 (by decide +kernel)
theorem dX12_begin1_73 : decode cX12_begin1 73 = .ok (.invokevirtual 521, 3) := dk_182 (by decide +kernel)
theorem dX12_begin1_76 : decode cX12_begin1 76 = .ok (.ifCond .ne 10, 3) := dk_154 (by decide +kernel)
theorem dX12_begin1_79 : decode cX12_begin1 79 = .ok (.aload_n 0, 1) := dk_42 (by decide +kernel)
theorem dX12_begin1_80 : decode cX12_begin1 80 = .ok (.invokevirtual 573, 3) := dk_182 (by decide +kernel)
theorem dX12_begin1_83 : decode cX12_begin1 83 = .ok (.ifCond .eq 12, 3) := dk_153 (by decide +kernel)
theorem dX12_begin1_86 : decode cX12_begin1 86 = .ok (.aload_n 0, 1) := dk_42 (by decide +kernel)
theorem dX12_begin1_87 : decode cX12_begin1 87 = .ok (.iconst 4, 1) := dk_7 (by decide +kernel)
theorem dX12_begin1_88 : decode cX12_begin1 88 = .ok (.aload_n 0, 1) := dk_42 (by decide +kernel)
theorem dX12_begin1_89 : decode cX12_begin1 89 = .ok (.getfield 488, 3) := dk_180 (by decide +kernel)
theorem dX12_begin1_92 : decode cX12_begin1 92 = .ok (.invokevirtual 518, 3) := dk_182 (by decide +kernel)
theorem dX12_begin1_95 : decode cX12_begin1 95 = .ok (.return_, 1) := dk_177 (by decide +kernel)
theorem dX12_begin1_96 : decode cX12_begin1 96 = .ok (.aload_n 0, 1) := dk_42 (by decide +kernel)
theorem dX12_begin1_97 : decode cX12_begin1 97 = .ok (.dup, 1) := dk_89 (by decide +kernel)
theorem dX12_begin1_98 : decode cX12_begin1 98 = .ok (.getfield 570, 3) := dk_180 (by decide +kernel)
theorem dX12_begin1_101 : decode cX12_begin1 101 = .ok (.iload_n 2, 1) := dk_28 (by decide +kernel)
theorem dX12_begin1_102 : decode cX12_begin1 102 = .ok (.ifCond .eq 7, 3) := dk_153 (by decide +kernel)
theorem dX12_begin1_105 : decode cX12_begin1 105 = .ok (.iconst 1, 1) := dk_4 (by decide +kernel)
theorem dX12_begin1_106 : decode cX12_begin1 106 = .ok (.goto 4, 3) := dk_167 (by decide +kernel)
theorem dX12_begin1_109 : decode cX12_begin1 109 = .ok (.iconst 0, 1) := dk_3 (by decide +kernel)
theorem dX12_begin1_110 : decode cX12_begin1 110 = .ok (.iadd, 1) := dk_96 (by decide +kernel)
theorem dX12_begin1_111 : decode cX12_begin1 111 = .ok (.putfield 570, 3) := dk_181 (by decide +kernel)
theorem dX12_begin1_114 : decode cX12_begin1 114 = .ok (.aload_n 0, 1) := dk_42 (by decide +kernel)
theorem dX12_begin1_115 : decode cX12_begin1 115 = .ok (.getfield 140, 3) := dk_180 (by decide +kernel)
theorem dX12_begin1_118 : decode cX12_begin1 118 = .ok (.aload_n 0, 1) := dk_42 (by decide +kernel)
theorem dX12_begin1_119 : decode cX12_begin1 119 = .ok (.getfield 577, 3) := dk_180 (by decide +kernel)
theorem dX12_begin1_122 : decode cX12_begin1 122 = .ok (.iload_n 1, 1) := dk_27 (by decide +kernel)
theorem dX12_begin1_123 : decode cX12_begin1 123 = .ok (.iastore, 1) := dk_79 (by decide +kernel)
theorem dX12_begin1_124 : decode cX12_begin1 124 = .ok (.aload_n 0, 1) := dk_42 (by decide +kernel)
theorem dX12_begin1_125 : decode cX12_begin1 125 = .ok (.getfield 143, 3) := dk_180 (by decide +kernel)
theorem dX12_begin1_128 : decode cX12_begin1 128 = .ok (.aload_n 0, 1) := dk_42 (by decide +kernel)
theorem dX12_begin1_129 : decode cX12_begin1 129 = .ok (.getfield 577, 3) := dk_180 (by decide +kernel)
theorem dX12_begin1_132 : decode cX12_begin1 132 = .ok (.iconst 0, 1) := dk_3 (by decide +kernel)
theorem dX12_begin1_133 : decode cX12_begin1 133 = .ok (.iastore, 1) := dk_79 (by decide +kernel)
theorem dX12_begin1_134 : decode cX12_begin1 134 = .ok (.aload_n 0, 1) := dk_42 (by decide +kernel)
theorem dX12_begin1_135 : decode cX12_begin1 135 = .ok (.getfield 146, 3) := dk_180 (by decide +kernel)
theorem dX12_begin1_138 : decode cX12_begin1 138 = .ok (.aload_n 0, 1) := dk_42 (by decide +kernel)
theorem dX12_begin1_139 : decode cX12_begin1 139 = .ok (.getfield 577, 3) := dk_180 (by decide +kernel)
theorem dX12_begin1_142 : decode cX12_begin1 142 = .ok (.iconst (-1), 1) := dk_2 (by decide +kernel)
theorem dX12_begin1_143 : decode cX12_begin1 143 = .ok (.iastore, 1) := dk_79 (by decide +kernel)
theorem dX12_begin1_144 : decode cX12_begin1 144 = .ok (.aload_n 0, 1) := dk_42 (by decide +kernel)
theorem dX12_begin1_145 : decode cX12_begin1 145 = .ok (.getfield 149, 3) := dk_180 (by decide +kernel)
theorem dX12_begin1_148 : decode cX12_begin1 148 = .ok (.aload_n 0, 1) := dk_42 (by decide +kernel)
theorem dX12_begin1_149 : decode cX12_begin1 149 = .ok (.getfield 577, 3) := dk_180 (by decide +kernel)
theorem dX12_begin1_152 : decode cX12_begin1 152 = .ok (.iconst (-1), 1) := dk_2 (by decide +kernel)
theorem dX12_begin1_153 : decode cX12_begin1 153 = .ok (.iastore, 1) := dk_79 (by decide +kernel)
theorem dX12_begin1_154 : decode cX12_begin1 154 = .ok (.aload_n 0, 1) := dk_42 (by decide +kernel)
theorem dX12_begin1_155 : decode cX12_begin1 155 = .ok (.getfield 164, 3) := dk_180 (by decide +kernel)
theorem dX12_begin1_158 : decode cX12_begin1 158 = .ok (.aload_n 0, 1) := dk_42 (by decide +kernel)
theorem dX12_begin1_159 : decode cX12_begin1 159 = .ok (.getfield 577, 3) := dk_180 (by decide +kernel)
theorem dX12_begin1_162 : decode cX12_begin1 162 = .ok (.aload_n 0, 1) := dk_42 (by decide +kernel)
theorem dX12_begin1_163 : decode cX12_begin1 163 = .ok (.getfield 488, 3) := dk_180 (by decide +kernel)
theorem dX12_begin1_166 : decode cX12_begin1 166 = .ok (.iastore, 1) := dk_79 (by decide +kernel)
theorem dX12_begin1_167 : decode cX12_begin1 167 = .ok (.aload_n 0, 1) := dk_42 (by decide +kernel)
theorem dX12_begin1_168 : decode cX12_begin1 168 = .ok (.getfield 167, 3) := dk_180 (by decide +kernel)
theorem dX12_begin1_171 : decode cX12_begin1 171 = .ok (.aload_n 0, 1) := dk_42 (by decide +kernel)
theorem dX12_begin1_172 : decode cX12_begin1 172 = .ok (.getfield 577, 3) := dk_180 (by decide +kernel)
theorem dX12_begin1_175 : decode cX12_begin1 175 = .ok (.iload_n 2, 1) := dk_28 (by decide +kernel)
theorem dX12_begin1_176 : decode cX12_begin1 176 = .ok (.ifCond .eq 7, 3) := dk_153 (by decide +kernel)
theorem dX12_begin1_179 : decode cX12_begin1 179 = .ok (.iconst 1, 1) := dk_4 (by decide +kernel)
theorem dX12_begin1_180 : decode cX12_begin1 180 = .ok (.goto 4, 3) := dk_167 (by decide +kernel)
theorem dX12_begin1_183 : decode cX12_begin1 183 = .ok (.iconst 0, 1) := dk_3 (by decide +kernel)
theorem dX12_begin1_184 : decode cX12_begin1 184 = .ok (.iastore, 1) := dk_79 (by decide +kernel)
theorem dX12_begin1_185 : decode cX12_begin1 185 = .ok (.aload_n 0, 1) := dk_42 (by decide +kernel)
theorem dX12_begin1_186 : decode cX12_begin1 186 = .ok (.dup, 1) := dk_89 (by decide +kernel)
theorem dX12_begin1_187 : decode cX12_begin1 187 = .ok (.getfield 577, 3) := dk_180 (by decide +kernel)
theorem dX12_begin1_190 : decode cX12_begin1 190 = .ok (.iconst 1, 1) := dk_4 (by decide +kernel)
theorem dX12_begin1_191 : decode cX12_begin1 191 = .ok (.iadd, 1) := dk_96 (by decide +kernel)
theorem dX12_begin1_192 : decode cX12_begin1 192 = .ok (.putfield 577, 3) := dk_181 (by decide +kernel)
theorem dX12_begin1_195 : decode cX12_begin1 195 = .ok (.return_, 1) := dk_177 (by decide +kernel)
def wsRX12_begin1 : List Cond := .code yX12_begin1 cX12_begin1 4 none :: ([.fieldLink RX12 515 "OptimaWorksModel" "stop" "I", .fieldLink RX12 570 "OptimaWorksModel" "within" "I", .fieldLink RX12 140 "OptimaWorksModel" "what" "[I", .fieldLink RX12 577 "OptimaWorksModel" "deep" "I", .fieldLink RX12 143 "OptimaWorksModel" "step" "[I", .fieldLink RX12 146 "OptimaWorksModel" "got1" "[I", .fieldLink RX12 149 "OptimaWorksModel" "got2" "[I", .fieldLink RX12 164 "OptimaWorksModel" "begins" "[I", .fieldLink RX12 488 "OptimaWorksModel" "from" "I", .fieldLink RX12 167 "OptimaWorksModel" "extra" "[I"] ++ wsX120 ++ (wsV RX12 530 RX12 yX12_isKey wsRX12_isKey) ++ (wsV RX12 573 RX12 yX12_canBegin wsRX12_canBegin) ++ (wsV RX12 518 RX12 yX12_faultAt wsRX12_faultAt) ++ (wsV RX12 521 RX12 yX12_isSign wsRX12_isSign))
theorem iwsRX12_begin1_in12 : ∀ w ∈ wsX120, w ∈ wsRX12_begin1 := fun _ h => List.mem_cons_of_mem _ (List.mem_append_left _ (List.mem_append_left _ (List.mem_append_left _ (List.mem_append_left _ (List.mem_append_right _ h)))))
theorem gwsRX12_begin1_0 : GoodIn wsRX12_begin1 (wsV RX12 530 RX12 yX12_isKey wsRX12_isKey) := goodIn_sub (fun _ h => List.mem_cons_of_mem _ (List.mem_append_left _ (List.mem_append_left _ (List.mem_append_left _ (List.mem_append_right _ h))))) (gdV (by decide +kernel) gdwsRX12_isKey)
theorem gwsRX12_begin1_1 : GoodIn wsRX12_begin1 (wsV RX12 573 RX12 yX12_canBegin wsRX12_canBegin) := goodIn_sub (fun _ h => List.mem_cons_of_mem _ (List.mem_append_left _ (List.mem_append_left _ (List.mem_append_right _ h)))) (gdV (by decide +kernel) gdwsRX12_canBegin)
theorem gwsRX12_begin1_2 : GoodIn wsRX12_begin1 (wsV RX12 518 RX12 yX12_faultAt wsRX12_faultAt) := goodIn_sub (fun _ h => List.mem_cons_of_mem _ (List.mem_append_left _ (List.mem_append_right _ h))) (gdV (by decide +kernel) gdwsRX12_faultAt)
theorem gwsRX12_begin1_3 : GoodIn wsRX12_begin1 (wsV RX12 521 RX12 yX12_isSign wsRX12_isSign) := goodIn_sub (fun _ h => List.mem_cons_of_mem _ (List.mem_append_right _ h)) (gdV (by decide +kernel) gdwsRX12_isSign)
theorem gdwsRX12_begin1 : wsRX12_begin1.all goodWord = true := gdC rfl (gdA (gdA (gdA (gdA (gdA (by decide +kernel : ([.fieldLink RX12 515 "OptimaWorksModel" "stop" "I", .fieldLink RX12 570 "OptimaWorksModel" "within" "I", .fieldLink RX12 140 "OptimaWorksModel" "what" "[I", .fieldLink RX12 577 "OptimaWorksModel" "deep" "I", .fieldLink RX12 143 "OptimaWorksModel" "step" "[I", .fieldLink RX12 146 "OptimaWorksModel" "got1" "[I", .fieldLink RX12 149 "OptimaWorksModel" "got2" "[I", .fieldLink RX12 164 "OptimaWorksModel" "begins" "[I", .fieldLink RX12 488 "OptimaWorksModel" "from" "I", .fieldLink RX12 167 "OptimaWorksModel" "extra" "[I"] : List Cond).all goodWord = true) gdwsX120) (gdV (by decide +kernel) gdwsRX12_isKey)) (gdV (by decide +kernel) gdwsRX12_canBegin)) (gdV (by decide +kernel) gdwsRX12_faultAt)) (gdV (by decide +kernel) gdwsRX12_isSign))
theorem hm_r_X12_begin1_0 : (.fieldLink RX12 570 "OptimaWorksModel" "within" "I" : Cond) ∈ wsRX12_begin1 := by decide +kernel
theorem hm_r_X12_begin1_1 : (.fieldLink RX12 140 "OptimaWorksModel" "what" "[I" : Cond) ∈ wsRX12_begin1 := by decide +kernel
theorem hm_r_X12_begin1_2 : (.fieldLink RX12 577 "OptimaWorksModel" "deep" "I" : Cond) ∈ wsRX12_begin1 := by decide +kernel
theorem hm_r_X12_begin1_3 : (.fieldLink RX12 143 "OptimaWorksModel" "step" "[I" : Cond) ∈ wsRX12_begin1 := by decide +kernel
theorem hm_r_X12_begin1_4 : (.fieldLink RX12 146 "OptimaWorksModel" "got1" "[I" : Cond) ∈ wsRX12_begin1 := by decide +kernel
theorem hm_r_X12_begin1_5 : (.fieldLink RX12 149 "OptimaWorksModel" "got2" "[I" : Cond) ∈ wsRX12_begin1 := by decide +kernel
theorem hm_r_X12_begin1_6 : (.fieldLink RX12 164 "OptimaWorksModel" "begins" "[I" : Cond) ∈ wsRX12_begin1 := by decide +kernel
theorem hm_r_X12_begin1_7 : (.fieldLink RX12 488 "OptimaWorksModel" "from" "I" : Cond) ∈ wsRX12_begin1 := by decide +kernel
theorem hm_r_X12_begin1_8 : (.fieldLink RX12 167 "OptimaWorksModel" "extra" "[I" : Cond) ∈ wsRX12_begin1 := by decide +kernel
set_option maxHeartbeats 4000000 in
set_option maxRecDepth 100000 in
/-- begin1(r) -/
theorem r_X12_begin1 (l : Launch) (dC : Nat → ClassId) (dI : Nat → Nat → Nat) (a : Nat → Nat) (k : Nat → ClassId) (h0 : Nat) (vi : Nat → Int32) (vj : Nat → Int64) (vF : Nat → Nat → Int32) (vG : Nat → Nat → Int64) (rv : Int32) (tp : Nat) (an : Nat) (fn : Nat) (nm : Nat) (se : Nat) (pa : Nat) (va : Nat) (bd : Nat) (dB : Nat) (wi : Nat) (hTp : vi 16 = nI tp) (htp : tp ≤ 4000) (ha0 : vi 17 = nI an) (hfr : vi 19 = nI fn) (hLx : LxO tp fn an (vi 18) (vi 20)) (hst0 : 0 ≤ (vi 21).toInt) (hnm : vi 25 = nI nm) (hnm40 : nm ≤ 40) (hno : NmO (vF 11) (vF 12) nm) (hNk : NkO (vF 10) (vF 13) nm se pa va) (hbd : vi 30 = nI bd) (hbd60 : bd ≤ 60) (hbo : NmO (vF 14) (vF 15) 60) (hdB : vi 74 = nI dB) (hdB9 : dB < 120) (hwi : vi 75 = nI wi) (hwi9 : wi ≤ 25) (sz : Nat) : Met l yX12_begin1 wsRX12_begin1 ({ frames := 3, cells := 0, slots := 0, locals := 68 }) (va_Pc [.ref h0, .int rv] (fun U => U.heap.size = sz ∧ va_P (dC, dI) vwCl (WR a k h0 vi vj vF vG) U.heap ∧ va_K (dC, dI) vwCl (tX12 k) U ∧ va_D (fun _ => True) (WR a k h0 vi vj vF vG))) (va_Qv (fun (u : (Int32) × (Int32) × (Nat → Int32) × (Nat → Int32) × (Nat → Int32) × (Nat → Int32) × (Nat → Int32) × (Nat → Int32) × (Nat) × (Nat)) => (0 ≤ ((u.1)).toInt) ∧ (0 < ((u.1)).toInt ∨ ((u.1) = vi 21 ∧ BgO rv (vi 18) (vi 20) (u.2.2.1) (u.2.2.2.1) (u.2.2.2.2.1) (u.2.2.2.2.2.1) (u.2.2.2.2.2.2.2.1) dB wi (u.2.2.2.2.2.2.2.2.1) (u.2.2.2.2.2.2.2.2.2))) ∧ (FrmO dB (vF 39) (vF 40) (vF 41) (vF 42) (vF 48) (u.2.2.1) (u.2.2.2.1) (u.2.2.2.2.1) (u.2.2.2.2.2.1) (u.2.2.2.2.2.2.2.1)) ∧ ((u.2.2.2.2.2.2.2.2.1) ≤ dB + 1)) (fun (u : (Int32) × (Int32) × (Nat → Int32) × (Nat → Int32) × (Nat → Int32) × (Nat → Int32) × (Nat → Int32) × (Nat → Int32) × (Nat) × (Nat)) t => va_P (dC, dI) vwCl (WR a k h0 (fT (fT (fT (fT vi 75 (nI (u.2.2.2.2.2.2.2.2.2))) 74 (nI (u.2.2.2.2.2.2.2.2.1))) 21 (u.1)) 22 (u.2.1)) vj (fT (fT (fT (fT (fT (fT vF 39 (u.2.2.1)) 40 (u.2.2.2.1)) 41 (u.2.2.2.2.1)) 42 (u.2.2.2.2.2.1)) 47 (u.2.2.2.2.2.2.1)) 48 (u.2.2.2.2.2.2.2.1)) vG) t.heap ∧ va_D (va_A (WR a k h0 vi vj vF vG) sz) (WR a k h0 (fT (fT (fT (fT vi 75 (nI (u.2.2.2.2.2.2.2.2.2))) 74 (nI (u.2.2.2.2.2.2.2.2.1))) 21 (u.1)) 22 (u.2.1)) vj (fT (fT (fT (fT (fT (fT vF 39 (u.2.2.1)) 40 (u.2.2.2.1)) 41 (u.2.2.2.2.1)) 42 (u.2.2.2.2.2.1)) 47 (u.2.2.2.2.2.2.1)) 48 (u.2.2.2.2.2.2.2.1)) vG)) (va_A (WR a k h0 vi vj vF vG) sz)) 0 0 (va_A (WR a k h0 vi vj vF vG) sz) := by
  refine Met.ofW (cc := cX12_begin1) (maxL := 4) (ret := none) (by decide) rfl ?_
  intro p e s m args below meth c s₁ B hml hv
  obtain ⟨rfl, hsz, hP, hK, hD0⟩ := hv
  have hx := B.exec
  have hb := B.bytes
  have hr := B.returns
  have hts := atoms_spec (ws := wsRX12_begin1) B.pre
  have hown : s.vm.findClass RX12 = some m.cls := findClass_of_methodNamed B.named
  have hlocks := B.notSynchronized
  subst hsz
  have hD := hD0.self (sz := s.heap.size)
  generalize hAe : va_A (WR a k h0 vi vj vF vG) s.heap.size = A at hD ⊢
  have hA : ∀ q : Nat, s.heap.size ≤ q → A q := fun q h => by rw [← hAe]; exact Or.inr h
  have hS : va_S A s.heap s.heap [] := va_S.rf
  have hl := lv_entry ([.ref h0, .int rv]) (n := 4) (Nat.le_of_ble_eq_true rfl)
  rw [lg_entry_eq]
  generalize (lg_sl ([.ref h0, .int rv]) ++ List.replicate (4 - (lg_sl ([.ref h0, .int rv])).length) Slot.unset).toArray = ls at hl ⊢
  have hl : lv_has ls 4 [(0, .ref h0), (1, .int rv)] := hl
  have hfa := hLx.1
  have han := hLx.2.1
  have han4 : an ≤ 4000 := by omega
  refine lv_aload_n hx hb dX12_begin1_0 rfl (lv_at hl 0 rfl) ?_
  refine va_get (D := (dC, dI)) (ci := 12) (v := .int (vi 21)) (C := RX12) (T := TX12) (N := 163) (fs := fM (vS a vi vj)) hx hb hts iwsRX12_begin1_in12 hown hK hP 0 rfl rfl 21 (by decide) (hts (.fieldLink RX12 515 "OptimaWorksModel" "stop" "I") (by decide +kernel)) (fun _ h9 => h9) rfl dX12_begin1_1 ?_
  refine lv_if_le (tgt := 8) hx hb dX12_begin1_4 (by decide) (fun c_4 => ?_) (fun c_4 => ?_)
  · have t_4 : ((vi 21)).toInt ≤ 0 := toI_le c_4 rfl (by decide)
    refine lv_iload_n hx hb dX12_begin1_8 rfl (lv_at hl 1 rfl) ?_
    refine lv_iconst (v := 3) hx hb dX12_begin1_9 (by decide) ?_
    refine W.cut (pc := 27) (fun H locs ls stk => ∃ (zq : Int32), ((zq = 1 ∧ zq = 1) ∨ (zq = 0 ∧ rv = 3 ∧ ¬ (vi 18 = 2 ∧ vi 20 = 10))) ∧  stk = [.int zq] ∧ va_P (dC, dI) vwCl (WR a k h0 vi vj vF vG) H ∧ va_D A (WR a k h0 vi vj vF vG) ∧ va_S A s.heap H locs ∧ lv_has ls 4 [(0, .ref h0), (1, .int rv)]) (fun join1 => ?_) ?_
    · refine lv_icmp_ne (tgt := 22) hx hb dX12_begin1_10 (by decide) (fun c_10 => ?_) (fun c_10 => ?_)
      · have t_10 : (rv).toInt ≠ 3 := toI_ne c_10 rfl (by decide)
        refine lv_iconst (v := 1) hx hb dX12_begin1_22 (by decide) ?_
        refine lv_goto (tgt := 27) hx hb dX12_begin1_23 (by decide) ?_
        have hl : lv_has _ _ ([(0, .ref h0), (1, .int rv)]) := lv_sub hl [0, 1] rfl
        exact join1 _ _ _ _ ⟨1, Or.inl ⟨rfl, rfl⟩, rfl, hP, hD, hS, hl⟩
      · have t_10 : (rv).toInt = 3 := toI_nne c_10 rfl (by decide)
        refine lv_aload_n hx hb dX12_begin1_13 rfl (lv_at hl 0 rfl) ?_
        refine lv_bipush (v := 10) hx hb dX12_begin1_14 (by decide) ?_
        have hFc := allFree hD hS hA
        refine va_calli (va_runV (As := [.int 10]) (rest := []) ⟨hx, hb, hml, hown, hts⟩ (r_X12_isKey l dC dI a k h0 vi vj vF vG 10 s.heap.size) (cwV 1 hts gwsRX12_begin1_0 rfl rfl rfl hd_yX12_isKey_RX12 (by decide +kernel)) (fz_pre (va_recv hK hP (ci := 12) (q0 := 0) rfl rfl) hP hK hD) rfl rfl hl.1 rfl (lv_room (Nat.le_of_ble_eq_true rfl)) dX12_begin1_16 (by decide +kernel)) hS (fun q _ h => hFc q h) hFc (fun r16 u t9_ H locs ht hvm hw9 hB9 hz1 hk1 hS => ?_)
        have hP : va_P (dC, dI) vwCl (WR a k h0 vi vj vF vG) H := fz_P ht hB9.1
        have hD := fz_sd hP (hB9.2.weaken (fun _ q _ h => hFc q.1 h)) rfl
        rcases hw9 with ⟨rfl, f16_0, f16_1⟩ | ⟨rfl, f16_0⟩
        · have f16_0 : (vi 18).toInt = 2 := f16_0
          have f16_1 : (vi 20) = 10 := f16_1
          refine lv_if_eq (tgt := 26) hx hb dX12_begin1_19 (by decide) (fun c9 => absurd c9 (by decide)) (fun _ => ?_)
          refine lv_iconst (v := 1) hx hb dX12_begin1_22 (by decide) ?_
          refine lv_goto (tgt := 27) hx hb dX12_begin1_23 (by decide) ?_
          have hl : lv_has _ _ ([(0, .ref h0), (1, .int rv)]) := lv_sub hl [0, 1] rfl
          exact join1 _ _ _ _ ⟨1, Or.inl ⟨rfl, rfl⟩, rfl, hP, hD, hS, hl⟩
        · have f16_0 : ¬ ((vi 18).toInt = 2 ∧ (vi 20) = 10) := f16_0
          refine lv_if_eq (tgt := 26) hx hb dX12_begin1_19 (by decide) (fun _ => ?_) (fun c9 => absurd (by decide) c9)
          refine lv_iconst (v := 0) hx hb dX12_begin1_26 (by decide) ?_
          have hl : lv_has _ _ ([(0, .ref h0), (1, .int rv)]) := lv_sub hl [0, 1] rfl
          exact join1 _ _ _ _ ⟨0, Or.inr ⟨rfl, c_10, fun h9 => f16_0 ⟨by rw [h9.1]; decide, h9.2⟩⟩, rfl, hP, hD, hS, hl⟩
    · rintro H locs ls stk ⟨zq, hzq, rfl, hP, hD, hS, hl⟩
      refine lv_istore_n hx hb dX12_begin1_27 rfl hl (by decide) rfl (fun ls (hl : lv_has ls _ ([(2, .int zq), (0, .ref h0), (1, .int rv)])) => ?_)
      refine lv_iload_n hx hb dX12_begin1_28 rfl (lv_at hl 0 rfl) ?_
      refine lv_if_eq (tgt := 96) hx hb dX12_begin1_29 (by decide) (fun c_29 => ?_) (fun c_29 => ?_)
      · have t_29 : (zq).toInt = 0 := toI_eq c_29 rfl (by decide)
        refine lv_aload_n hx hb dX12_begin1_96 rfl (lv_at hl 1 rfl) ?_
        refine lv_dup hx hb dX12_begin1_97 rfl ?_
        refine va_get (D := (dC, dI)) (ci := 12) (v := .int (vi 75)) (C := RX12) (T := TX12) (N := 163) (fs := fM (vS a vi vj)) hx hb hts iwsRX12_begin1_in12 hown hK hP 0 rfl rfl 75 (by decide) (hts _ hm_r_X12_begin1_0) (fun _ h9 => h9) rfl dX12_begin1_98 ?_
        refine lv_topi (fun y1 hy1 => ?_)
        obtain rfl : (nI wi) = y1 := (hy1.trans (hwi)).symm
        refine lv_iload_n hx hb dX12_begin1_101 rfl (lv_at hl 0 rfl) ?_
        refine lv_if_eq (tgt := 109) hx hb dX12_begin1_102 (by decide) (fun c_102 => ?_) (fun c9 => False.elim (by have t9 : ¬ (zq).toInt = 0 := toI_neq c9 rfl (by decide); omega))
        have t_102 : (zq).toInt = 0 := toI_eq c_102 rfl (by decide)
        refine lv_iconst (v := 0) hx hb dX12_begin1_109 (by decide) ?_
        refine lv_iadd hx hb dX12_begin1_110 ?_
        refine lv_topi (fun y2 hy2 => ?_)
        obtain rfl : (nI (wi + 0)) = y2 := (hy2.trans (nI_add wi 0)).symm
        refine va_put (D := (dC, dI)) (ci := 12) (v := .int (nI (wi + 0))) (ty := .int) (C := RX12) (T := TX12) (N := 163) (fs := fM (vS a vi vj)) hx hb hts iwsRX12_begin1_in12 tyX12 tyX12_ok nmX12 hown hK hP hD hS 0 rfl rfl 75 (by decide) (hts _ hm_r_X12_begin1_0) (fun _ h9 => h9) rfl (by decide +kernel) rfl rfl (Nat.le_of_ble_eq_true rfl) dX12_begin1_111 (fun H locs hP hD hS => ?_)
        have hP : va_P (dC, dI) vwCl (WR a k h0 (fT vi 75 (nI (wi + 0))) vj vF vG) H := fz_w (WR_i 75 _ rfl) hP
        have hD : va_D A (WR a k h0 (fT vi 75 (nI (wi + 0))) vj vF vG) := fz_wD (WR_i 75 _ rfl) hD
        refine lv_aload_n hx hb dX12_begin1_114 rfl (lv_at hl 1 rfl) ?_
        refine va_get (D := (dC, dI)) (ci := 12) (v := .ref (a 39)) (C := RX12) (T := TX12) (N := 163) (fs := fM (vS a (fT vi 75 (nI (wi + 0))) vj)) hx hb hts iwsRX12_begin1_in12 hown hK hP 0 rfl rfl 64 (by decide) (hts _ hm_r_X12_begin1_1) (fun _ h9 => h9) rfl dX12_begin1_115 ?_
        refine lv_aload_n hx hb dX12_begin1_118 rfl (lv_at hl 1 rfl) ?_
        refine va_get (D := (dC, dI)) (ci := 12) (v := .int (vi 74)) (C := RX12) (T := TX12) (N := 163) (fs := fM (vS a (fT vi 75 (nI (wi + 0))) vj)) hx hb hts iwsRX12_begin1_in12 hown hK hP 0 rfl rfl 74 (by decide) (hts _ hm_r_X12_begin1_2) (fun _ h9 => h9) rfl dX12_begin1_119 ?_
        refine lv_topi (fun y3 hy3 => ?_)
        obtain rfl : (nI dB) = y3 := (hy3.trans (hdB)).symm
        refine lv_iload_n hx hb dX12_begin1_122 rfl (lv_at hl 2 rfl) ?_
        refine va_iast (cA := k 39) (n := 120) (f := (vF 39)) hx hb hK hP hD hS 40 39 (WR_get 39 (by decide)) (TR_get 39 (by decide)) (vp_in_nI (show dB < 120 by omega) (by omega)) dX12_begin1_123 (fun H locs hP hD hS => ?_)
        have hP : va_P (dC, dI) vwCl (WR a k h0 (fT vi 75 (nI (wi + 0))) vj (fT vF 39 (upd (vF 39) ((nI dB)).toNatClampNeg rv)) vG) H := fz_w (WR_F 39 (by decide) _ rfl) hP
        have hD : va_D A (WR a k h0 (fT vi 75 (nI (wi + 0))) vj (fT vF 39 (upd (vF 39) ((nI dB)).toNatClampNeg rv)) vG) := fz_wD (WR_F 39 (by decide) _ rfl) hD
        refine lv_aload_n hx hb dX12_begin1_124 rfl (lv_at hl 1 rfl) ?_
        refine va_get (D := (dC, dI)) (ci := 12) (v := .ref (a 40)) (C := RX12) (T := TX12) (N := 163) (fs := fM (vS a (fT vi 75 (nI (wi + 0))) vj)) hx hb hts iwsRX12_begin1_in12 hown hK hP 0 rfl rfl 65 (by decide) (hts _ hm_r_X12_begin1_3) (fun _ h9 => h9) rfl dX12_begin1_125 ?_
        refine lv_aload_n hx hb dX12_begin1_128 rfl (lv_at hl 1 rfl) ?_
        refine va_get (D := (dC, dI)) (ci := 12) (v := .int (vi 74)) (C := RX12) (T := TX12) (N := 163) (fs := fM (vS a (fT vi 75 (nI (wi + 0))) vj)) hx hb hts iwsRX12_begin1_in12 hown hK hP 0 rfl rfl 74 (by decide) (hts _ hm_r_X12_begin1_2) (fun _ h9 => h9) rfl dX12_begin1_129 ?_
        refine lv_topi (fun y4 hy4 => ?_)
        obtain rfl : (nI dB) = y4 := (hy4.trans (hdB)).symm
        refine lv_iconst (v := 0) hx hb dX12_begin1_132 (by decide) ?_
        refine va_iast (cA := k 40) (n := 120) (f := (vF 40)) hx hb hK hP hD hS 41 40 (WR_get 40 (by decide)) (TR_get 40 (by decide)) (vp_in_nI (show dB < 120 by omega) (by omega)) dX12_begin1_133 (fun H locs hP hD hS => ?_)
        have hP : va_P (dC, dI) vwCl (WR a k h0 (fT vi 75 (nI (wi + 0))) vj (fT (fT vF 39 (upd (vF 39) ((nI dB)).toNatClampNeg rv)) 40 (upd (vF 40) ((nI dB)).toNatClampNeg 0)) vG) H := fz_w (WR_F 40 (by decide) _ rfl) hP
        have hD : va_D A (WR a k h0 (fT vi 75 (nI (wi + 0))) vj (fT (fT vF 39 (upd (vF 39) ((nI dB)).toNatClampNeg rv)) 40 (upd (vF 40) ((nI dB)).toNatClampNeg 0)) vG) := fz_wD (WR_F 40 (by decide) _ rfl) hD
        refine lv_aload_n hx hb dX12_begin1_134 rfl (lv_at hl 1 rfl) ?_
        refine va_get (D := (dC, dI)) (ci := 12) (v := .ref (a 41)) (C := RX12) (T := TX12) (N := 163) (fs := fM (vS a (fT vi 75 (nI (wi + 0))) vj)) hx hb hts iwsRX12_begin1_in12 hown hK hP 0 rfl rfl 66 (by decide) (hts _ hm_r_X12_begin1_4) (fun _ h9 => h9) rfl dX12_begin1_135 ?_
        refine lv_aload_n hx hb dX12_begin1_138 rfl (lv_at hl 1 rfl) ?_
        refine va_get (D := (dC, dI)) (ci := 12) (v := .int (vi 74)) (C := RX12) (T := TX12) (N := 163) (fs := fM (vS a (fT vi 75 (nI (wi + 0))) vj)) hx hb hts iwsRX12_begin1_in12 hown hK hP 0 rfl rfl 74 (by decide) (hts _ hm_r_X12_begin1_2) (fun _ h9 => h9) rfl dX12_begin1_139 ?_
        refine lv_topi (fun y5 hy5 => ?_)
        obtain rfl : (nI dB) = y5 := (hy5.trans (hdB)).symm
        refine lv_iconst (v := (-1)) hx hb dX12_begin1_142 (by decide) ?_
        refine va_iast (cA := k 41) (n := 120) (f := (vF 41)) hx hb hK hP hD hS 42 41 (WR_get 41 (by decide)) (TR_get 41 (by decide)) (vp_in_nI (show dB < 120 by omega) (by omega)) dX12_begin1_143 (fun H locs hP hD hS => ?_)
        have hP : va_P (dC, dI) vwCl (WR a k h0 (fT vi 75 (nI (wi + 0))) vj (fT (fT (fT vF 39 (upd (vF 39) ((nI dB)).toNatClampNeg rv)) 40 (upd (vF 40) ((nI dB)).toNatClampNeg 0)) 41 (upd (vF 41) ((nI dB)).toNatClampNeg (-1))) vG) H := fz_w (WR_F 41 (by decide) _ rfl) hP
        have hD : va_D A (WR a k h0 (fT vi 75 (nI (wi + 0))) vj (fT (fT (fT vF 39 (upd (vF 39) ((nI dB)).toNatClampNeg rv)) 40 (upd (vF 40) ((nI dB)).toNatClampNeg 0)) 41 (upd (vF 41) ((nI dB)).toNatClampNeg (-1))) vG) := fz_wD (WR_F 41 (by decide) _ rfl) hD
        refine lv_aload_n hx hb dX12_begin1_144 rfl (lv_at hl 1 rfl) ?_
        refine va_get (D := (dC, dI)) (ci := 12) (v := .ref (a 42)) (C := RX12) (T := TX12) (N := 163) (fs := fM (vS a (fT vi 75 (nI (wi + 0))) vj)) hx hb hts iwsRX12_begin1_in12 hown hK hP 0 rfl rfl 67 (by decide) (hts _ hm_r_X12_begin1_5) (fun _ h9 => h9) rfl dX12_begin1_145 ?_
        refine lv_aload_n hx hb dX12_begin1_148 rfl (lv_at hl 1 rfl) ?_
        refine va_get (D := (dC, dI)) (ci := 12) (v := .int (vi 74)) (C := RX12) (T := TX12) (N := 163) (fs := fM (vS a (fT vi 75 (nI (wi + 0))) vj)) hx hb hts iwsRX12_begin1_in12 hown hK hP 0 rfl rfl 74 (by decide) (hts _ hm_r_X12_begin1_2) (fun _ h9 => h9) rfl dX12_begin1_149 ?_
        refine lv_topi (fun y6 hy6 => ?_)
        obtain rfl : (nI dB) = y6 := (hy6.trans (hdB)).symm
        refine lv_iconst (v := (-1)) hx hb dX12_begin1_152 (by decide) ?_
        refine va_iast (cA := k 42) (n := 120) (f := (vF 42)) hx hb hK hP hD hS 43 42 (WR_get 42 (by decide)) (TR_get 42 (by decide)) (vp_in_nI (show dB < 120 by omega) (by omega)) dX12_begin1_153 (fun H locs hP hD hS => ?_)
        have hP : va_P (dC, dI) vwCl (WR a k h0 (fT vi 75 (nI (wi + 0))) vj (fT (fT (fT (fT vF 39 (upd (vF 39) ((nI dB)).toNatClampNeg rv)) 40 (upd (vF 40) ((nI dB)).toNatClampNeg 0)) 41 (upd (vF 41) ((nI dB)).toNatClampNeg (-1))) 42 (upd (vF 42) ((nI dB)).toNatClampNeg (-1))) vG) H := fz_w (WR_F 42 (by decide) _ rfl) hP
        have hD : va_D A (WR a k h0 (fT vi 75 (nI (wi + 0))) vj (fT (fT (fT (fT vF 39 (upd (vF 39) ((nI dB)).toNatClampNeg rv)) 40 (upd (vF 40) ((nI dB)).toNatClampNeg 0)) 41 (upd (vF 41) ((nI dB)).toNatClampNeg (-1))) 42 (upd (vF 42) ((nI dB)).toNatClampNeg (-1))) vG) := fz_wD (WR_F 42 (by decide) _ rfl) hD
        refine lv_aload_n hx hb dX12_begin1_154 rfl (lv_at hl 1 rfl) ?_
        refine va_get (D := (dC, dI)) (ci := 12) (v := .ref (a 47)) (C := RX12) (T := TX12) (N := 163) (fs := fM (vS a (fT vi 75 (nI (wi + 0))) vj)) hx hb hts iwsRX12_begin1_in12 hown hK hP 0 rfl rfl 72 (by decide) (hts _ hm_r_X12_begin1_6) (fun _ h9 => h9) rfl dX12_begin1_155 ?_
        refine lv_aload_n hx hb dX12_begin1_158 rfl (lv_at hl 1 rfl) ?_
        refine va_get (D := (dC, dI)) (ci := 12) (v := .int (vi 74)) (C := RX12) (T := TX12) (N := 163) (fs := fM (vS a (fT vi 75 (nI (wi + 0))) vj)) hx hb hts iwsRX12_begin1_in12 hown hK hP 0 rfl rfl 74 (by decide) (hts _ hm_r_X12_begin1_2) (fun _ h9 => h9) rfl dX12_begin1_159 ?_
        refine lv_topi (fun y7 hy7 => ?_)
        obtain rfl : (nI dB) = y7 := (hy7.trans (hdB)).symm
        refine lv_aload_n hx hb dX12_begin1_162 rfl (lv_at hl 1 rfl) ?_
        refine va_get (D := (dC, dI)) (ci := 12) (v := .int (vi 19)) (C := RX12) (T := TX12) (N := 163) (fs := fM (vS a (fT vi 75 (nI (wi + 0))) vj)) hx hb hts iwsRX12_begin1_in12 hown hK hP 0 rfl rfl 19 (by decide) (hts _ hm_r_X12_begin1_7) (fun _ h9 => h9) rfl dX12_begin1_163 ?_
        refine lv_topi (fun y8 hy8 => ?_)
        obtain rfl : (nI fn) = y8 := (hy8.trans (hfr)).symm
        refine va_iast (cA := k 47) (n := 120) (f := (vF 47)) hx hb hK hP hD hS 48 47 (WR_get 47 (by decide)) (TR_get 47 (by decide)) (vp_in_nI (show dB < 120 by omega) (by omega)) dX12_begin1_166 (fun H locs hP hD hS => ?_)
        have hP : va_P (dC, dI) vwCl (WR a k h0 (fT vi 75 (nI (wi + 0))) vj (fT (fT (fT (fT (fT vF 39 (upd (vF 39) ((nI dB)).toNatClampNeg rv)) 40 (upd (vF 40) ((nI dB)).toNatClampNeg 0)) 41 (upd (vF 41) ((nI dB)).toNatClampNeg (-1))) 42 (upd (vF 42) ((nI dB)).toNatClampNeg (-1))) 47 (upd (vF 47) ((nI dB)).toNatClampNeg (nI fn))) vG) H := fz_w (WR_F 47 (by decide) _ rfl) hP
        have hD : va_D A (WR a k h0 (fT vi 75 (nI (wi + 0))) vj (fT (fT (fT (fT (fT vF 39 (upd (vF 39) ((nI dB)).toNatClampNeg rv)) 40 (upd (vF 40) ((nI dB)).toNatClampNeg 0)) 41 (upd (vF 41) ((nI dB)).toNatClampNeg (-1))) 42 (upd (vF 42) ((nI dB)).toNatClampNeg (-1))) 47 (upd (vF 47) ((nI dB)).toNatClampNeg (nI fn))) vG) := fz_wD (WR_F 47 (by decide) _ rfl) hD
        refine lv_aload_n hx hb dX12_begin1_167 rfl (lv_at hl 1 rfl) ?_
        refine va_get (D := (dC, dI)) (ci := 12) (v := .ref (a 48)) (C := RX12) (T := TX12) (N := 163) (fs := fM (vS a (fT vi 75 (nI (wi + 0))) vj)) hx hb hts iwsRX12_begin1_in12 hown hK hP 0 rfl rfl 73 (by decide) (hts _ hm_r_X12_begin1_8) (fun _ h9 => h9) rfl dX12_begin1_168 ?_
        refine lv_aload_n hx hb dX12_begin1_171 rfl (lv_at hl 1 rfl) ?_
        refine va_get (D := (dC, dI)) (ci := 12) (v := .int (vi 74)) (C := RX12) (T := TX12) (N := 163) (fs := fM (vS a (fT vi 75 (nI (wi + 0))) vj)) hx hb hts iwsRX12_begin1_in12 hown hK hP 0 rfl rfl 74 (by decide) (hts _ hm_r_X12_begin1_2) (fun _ h9 => h9) rfl dX12_begin1_172 ?_
        refine lv_topi (fun y9 hy9 => ?_)
        obtain rfl : (nI dB) = y9 := (hy9.trans (hdB)).symm
        refine lv_iload_n hx hb dX12_begin1_175 rfl (lv_at hl 0 rfl) ?_
        refine lv_if_eq (tgt := 183) hx hb dX12_begin1_176 (by decide) (fun c_176 => ?_) (fun c9 => False.elim (by have t9 : ¬ (zq).toInt = 0 := toI_neq c9 rfl (by decide); omega))
        have t_176 : (zq).toInt = 0 := toI_eq c_176 rfl (by decide)
        refine lv_iconst (v := 0) hx hb dX12_begin1_183 (by decide) ?_
        refine va_iast (cA := k 48) (n := 120) (f := (vF 48)) hx hb hK hP hD hS 49 48 (WR_get 48 (by decide)) (TR_get 48 (by decide)) (vp_in_nI (show dB < 120 by omega) (by omega)) dX12_begin1_184 (fun H locs hP hD hS => ?_)
        have hP : va_P (dC, dI) vwCl (WR a k h0 (fT vi 75 (nI (wi + 0))) vj (fT (fT (fT (fT (fT (fT vF 39 (upd (vF 39) ((nI dB)).toNatClampNeg rv)) 40 (upd (vF 40) ((nI dB)).toNatClampNeg 0)) 41 (upd (vF 41) ((nI dB)).toNatClampNeg (-1))) 42 (upd (vF 42) ((nI dB)).toNatClampNeg (-1))) 47 (upd (vF 47) ((nI dB)).toNatClampNeg (nI fn))) 48 (upd (vF 48) ((nI dB)).toNatClampNeg 0)) vG) H := fz_w (WR_F 48 (by decide) _ rfl) hP
        have hD : va_D A (WR a k h0 (fT vi 75 (nI (wi + 0))) vj (fT (fT (fT (fT (fT (fT vF 39 (upd (vF 39) ((nI dB)).toNatClampNeg rv)) 40 (upd (vF 40) ((nI dB)).toNatClampNeg 0)) 41 (upd (vF 41) ((nI dB)).toNatClampNeg (-1))) 42 (upd (vF 42) ((nI dB)).toNatClampNeg (-1))) 47 (upd (vF 47) ((nI dB)).toNatClampNeg (nI fn))) 48 (upd (vF 48) ((nI dB)).toNatClampNeg 0)) vG) := fz_wD (WR_F 48 (by decide) _ rfl) hD
        refine lv_aload_n hx hb dX12_begin1_185 rfl (lv_at hl 1 rfl) ?_
        refine lv_dup hx hb dX12_begin1_186 rfl ?_
        refine va_get (D := (dC, dI)) (ci := 12) (v := .int (vi 74)) (C := RX12) (T := TX12) (N := 163) (fs := fM (vS a (fT vi 75 (nI (wi + 0))) vj)) hx hb hts iwsRX12_begin1_in12 hown hK hP 0 rfl rfl 74 (by decide) (hts _ hm_r_X12_begin1_2) (fun _ h9 => h9) rfl dX12_begin1_187 ?_
        refine lv_topi (fun y10 hy10 => ?_)
        obtain rfl : (nI dB) = y10 := (hy10.trans (hdB)).symm
        refine lv_iconst (v := 1) hx hb dX12_begin1_190 (by decide) ?_
        refine lv_iadd hx hb dX12_begin1_191 ?_
        refine lv_topi (fun y11 hy11 => ?_)
        obtain rfl : (nI (dB + 1)) = y11 := (hy11.trans (nI_add dB 1)).symm
        refine va_put (D := (dC, dI)) (ci := 12) (v := .int (nI (dB + 1))) (ty := .int) (C := RX12) (T := TX12) (N := 163) (fs := fM (vS a (fT vi 75 (nI (wi + 0))) vj)) hx hb hts iwsRX12_begin1_in12 tyX12 tyX12_ok nmX12 hown hK hP hD hS 0 rfl rfl 74 (by decide) (hts _ hm_r_X12_begin1_2) (fun _ h9 => h9) rfl (by decide +kernel) rfl rfl (Nat.le_of_ble_eq_true rfl) dX12_begin1_192 (fun H locs hP hD hS => ?_)
        have hP : va_P (dC, dI) vwCl (WR a k h0 (fT (fT vi 75 (nI (wi + 0))) 74 (nI (dB + 1))) vj (fT (fT (fT (fT (fT (fT vF 39 (upd (vF 39) ((nI dB)).toNatClampNeg rv)) 40 (upd (vF 40) ((nI dB)).toNatClampNeg 0)) 41 (upd (vF 41) ((nI dB)).toNatClampNeg (-1))) 42 (upd (vF 42) ((nI dB)).toNatClampNeg (-1))) 47 (upd (vF 47) ((nI dB)).toNatClampNeg (nI fn))) 48 (upd (vF 48) ((nI dB)).toNatClampNeg 0)) vG) H := fz_w (WR_i 74 _ rfl) hP
        have hD : va_D A (WR a k h0 (fT (fT vi 75 (nI (wi + 0))) 74 (nI (dB + 1))) vj (fT (fT (fT (fT (fT (fT vF 39 (upd (vF 39) ((nI dB)).toNatClampNeg rv)) 40 (upd (vF 40) ((nI dB)).toNatClampNeg 0)) 41 (upd (vF 41) ((nI dB)).toNatClampNeg (-1))) 42 (upd (vF 42) ((nI dB)).toNatClampNeg (-1))) 47 (upd (vF 47) ((nI dB)).toNatClampNeg (nI fn))) 48 (upd (vF 48) ((nI dB)).toNatClampNeg 0)) vG) := fz_wD (WR_i 74 _ rfl) hD
        refine W.widen (k := 0) (n := 0) (by decide +kernel) (by decide +kernel) ?_
        have e9 : fT (fT (fT (fT vi 75 (nI (wi + 0))) 74 (nI (dB + 1))) 21 (vi 21)) 22 (vi 22) = fT (fT vi 75 (nI (wi + 0))) 74 (nI (dB + 1)) := (fT_id _ _ ((fT_ne _ _ (Nat.ne_of_beq_eq_false rfl)).trans ((fT_ne _ _ (Nat.ne_of_beq_eq_false rfl)).trans (fT_ne _ _ (Nat.ne_of_beq_eq_false rfl))))).trans (fT_id _ _ ((fT_ne _ _ (Nat.ne_of_beq_eq_false rfl)).trans (fT_ne _ _ (Nat.ne_of_beq_eq_false rfl))))
        have hP := wr_Pi e9 hP
        have hD := wr_Di e9 hD
        clear e9
        exact W.vret hx hb hr (fun t9_ ht hW => ⟨⟨((vi 21), (vi 22), (upd (vF 39) ((nI dB)).toNatClampNeg rv), (upd (vF 40) ((nI dB)).toNatClampNeg 0), (upd (vF 41) ((nI dB)).toNatClampNeg (-1)), (upd (vF 42) ((nI dB)).toNatClampNeg (-1)), (upd (vF 47) ((nI dB)).toNatClampNeg (nI fn)), (upd (vF 48) ((nI dB)).toNatClampNeg 0), (dB + 1), (wi + 0)), rfl, by (try dsimp only); exact ⟨hst0, Or.inr ⟨rfl, 0, ⟨by omega, fun h9 => absurd (hzq.resolve_left (fun h => absurd (h.1.symm.trans c_29) (by decide))).2.1 h9, fun h8 h9 => absurd ⟨h8, h9⟩ (hzq.resolve_left (fun h => absurd (h.1.symm.trans c_29) (by decide))).2.2⟩, ⟨rfl, by omega, rfl⟩, by rw [upd_at (by omega), if_pos rfl], by rw [upd_at (by omega), if_pos rfl], by rw [upd_at (by omega), if_pos rfl], by rw [upd_at (by omega), if_pos rfl], by rw [upd_at (by omega), if_pos rfl]; decide⟩, fun q h9 => ⟨by rw [upd_at (by omega), if_neg h9], by rw [upd_at (by omega), if_neg h9], by rw [upd_at (by omega), if_neg h9], by rw [upd_at (by omega), if_neg h9], by rw [upd_at (by omega), if_neg h9]⟩, by omega⟩, by rw [ht]; exact hP, hD⟩, hS.F ht⟩) hS.2.2 dX12_begin1_195
      · have t_29 : ¬ (zq).toInt = 0 := toI_neq c_29 rfl (by decide)
        refine lv_aload_n hx hb dX12_begin1_32 rfl (lv_at hl 1 rfl) ?_
        refine va_get (D := (dC, dI)) (ci := 12) (v := .int (vi 75)) (C := RX12) (T := TX12) (N := 163) (fs := fM (vS a vi vj)) hx hb hts iwsRX12_begin1_in12 hown hK hP 0 rfl rfl 75 (by decide) (hts _ hm_r_X12_begin1_0) (fun _ h9 => h9) rfl dX12_begin1_33 ?_
        refine lv_topi (fun y12 hy12 => ?_)
        obtain rfl : (nI wi) = y12 := (hy12.trans (hwi)).symm
        refine lv_bipush (v := 25) hx hb dX12_begin1_36 (by decide) ?_
        refine lv_icmp_ne (tgt := 96) hx hb dX12_begin1_38 (by decide) (fun c_38 => ?_) (fun c_38 => ?_)
        · have t_38 : ((wi : Nat) : Int) ≠ 25 := toI_ne c_38 (nI_toInt (by omega)) (by decide)
          refine lv_aload_n hx hb dX12_begin1_96 rfl (lv_at hl 1 rfl) ?_
          refine lv_dup hx hb dX12_begin1_97 rfl ?_
          refine va_get (D := (dC, dI)) (ci := 12) (v := .int (vi 75)) (C := RX12) (T := TX12) (N := 163) (fs := fM (vS a vi vj)) hx hb hts iwsRX12_begin1_in12 hown hK hP 0 rfl rfl 75 (by decide) (hts _ hm_r_X12_begin1_0) (fun _ h9 => h9) rfl dX12_begin1_98 ?_
          refine lv_topi (fun y13 hy13 => ?_)
          obtain rfl : (nI wi) = y13 := (hy13.trans (hwi)).symm
          refine lv_iload_n hx hb dX12_begin1_101 rfl (lv_at hl 0 rfl) ?_
          refine lv_if_eq (tgt := 109) hx hb dX12_begin1_102 (by decide) (fun c9 => False.elim (by have t9 : (zq).toInt = 0 := toI_eq c9 rfl (by decide); omega)) (fun c_102 => ?_)
          have t_102 : ¬ (zq).toInt = 0 := toI_neq c_102 rfl (by decide)
          refine lv_iconst (v := 1) hx hb dX12_begin1_105 (by decide) ?_
          refine lv_goto (tgt := 110) hx hb dX12_begin1_106 (by decide) ?_
          refine lv_iadd hx hb dX12_begin1_110 ?_
          refine lv_topi (fun y14 hy14 => ?_)
          obtain rfl : (nI (wi + 1)) = y14 := (hy14.trans (nI_add wi 1)).symm
          refine va_put (D := (dC, dI)) (ci := 12) (v := .int (nI (wi + 1))) (ty := .int) (C := RX12) (T := TX12) (N := 163) (fs := fM (vS a vi vj)) hx hb hts iwsRX12_begin1_in12 tyX12 tyX12_ok nmX12 hown hK hP hD hS 0 rfl rfl 75 (by decide) (hts _ hm_r_X12_begin1_0) (fun _ h9 => h9) rfl (by decide +kernel) rfl rfl (Nat.le_of_ble_eq_true rfl) dX12_begin1_111 (fun H locs hP hD hS => ?_)
          have hP : va_P (dC, dI) vwCl (WR a k h0 (fT vi 75 (nI (wi + 1))) vj vF vG) H := fz_w (WR_i 75 _ rfl) hP
          have hD : va_D A (WR a k h0 (fT vi 75 (nI (wi + 1))) vj vF vG) := fz_wD (WR_i 75 _ rfl) hD
          refine lv_aload_n hx hb dX12_begin1_114 rfl (lv_at hl 1 rfl) ?_
          refine va_get (D := (dC, dI)) (ci := 12) (v := .ref (a 39)) (C := RX12) (T := TX12) (N := 163) (fs := fM (vS a (fT vi 75 (nI (wi + 1))) vj)) hx hb hts iwsRX12_begin1_in12 hown hK hP 0 rfl rfl 64 (by decide) (hts _ hm_r_X12_begin1_1) (fun _ h9 => h9) rfl dX12_begin1_115 ?_
          refine lv_aload_n hx hb dX12_begin1_118 rfl (lv_at hl 1 rfl) ?_
          refine va_get (D := (dC, dI)) (ci := 12) (v := .int (vi 74)) (C := RX12) (T := TX12) (N := 163) (fs := fM (vS a (fT vi 75 (nI (wi + 1))) vj)) hx hb hts iwsRX12_begin1_in12 hown hK hP 0 rfl rfl 74 (by decide) (hts _ hm_r_X12_begin1_2) (fun _ h9 => h9) rfl dX12_begin1_119 ?_
          refine lv_topi (fun y15 hy15 => ?_)
          obtain rfl : (nI dB) = y15 := (hy15.trans (hdB)).symm
          refine lv_iload_n hx hb dX12_begin1_122 rfl (lv_at hl 2 rfl) ?_
          refine va_iast (cA := k 39) (n := 120) (f := (vF 39)) hx hb hK hP hD hS 40 39 (WR_get 39 (by decide)) (TR_get 39 (by decide)) (vp_in_nI (show dB < 120 by omega) (by omega)) dX12_begin1_123 (fun H locs hP hD hS => ?_)
          have hP : va_P (dC, dI) vwCl (WR a k h0 (fT vi 75 (nI (wi + 1))) vj (fT vF 39 (upd (vF 39) ((nI dB)).toNatClampNeg rv)) vG) H := fz_w (WR_F 39 (by decide) _ rfl) hP
          have hD : va_D A (WR a k h0 (fT vi 75 (nI (wi + 1))) vj (fT vF 39 (upd (vF 39) ((nI dB)).toNatClampNeg rv)) vG) := fz_wD (WR_F 39 (by decide) _ rfl) hD
          refine lv_aload_n hx hb dX12_begin1_124 rfl (lv_at hl 1 rfl) ?_
          refine va_get (D := (dC, dI)) (ci := 12) (v := .ref (a 40)) (C := RX12) (T := TX12) (N := 163) (fs := fM (vS a (fT vi 75 (nI (wi + 1))) vj)) hx hb hts iwsRX12_begin1_in12 hown hK hP 0 rfl rfl 65 (by decide) (hts _ hm_r_X12_begin1_3) (fun _ h9 => h9) rfl dX12_begin1_125 ?_
          refine lv_aload_n hx hb dX12_begin1_128 rfl (lv_at hl 1 rfl) ?_
          refine va_get (D := (dC, dI)) (ci := 12) (v := .int (vi 74)) (C := RX12) (T := TX12) (N := 163) (fs := fM (vS a (fT vi 75 (nI (wi + 1))) vj)) hx hb hts iwsRX12_begin1_in12 hown hK hP 0 rfl rfl 74 (by decide) (hts _ hm_r_X12_begin1_2) (fun _ h9 => h9) rfl dX12_begin1_129 ?_
          refine lv_topi (fun y16 hy16 => ?_)
          obtain rfl : (nI dB) = y16 := (hy16.trans (hdB)).symm
          refine lv_iconst (v := 0) hx hb dX12_begin1_132 (by decide) ?_
          refine va_iast (cA := k 40) (n := 120) (f := (vF 40)) hx hb hK hP hD hS 41 40 (WR_get 40 (by decide)) (TR_get 40 (by decide)) (vp_in_nI (show dB < 120 by omega) (by omega)) dX12_begin1_133 (fun H locs hP hD hS => ?_)
          have hP : va_P (dC, dI) vwCl (WR a k h0 (fT vi 75 (nI (wi + 1))) vj (fT (fT vF 39 (upd (vF 39) ((nI dB)).toNatClampNeg rv)) 40 (upd (vF 40) ((nI dB)).toNatClampNeg 0)) vG) H := fz_w (WR_F 40 (by decide) _ rfl) hP
          have hD : va_D A (WR a k h0 (fT vi 75 (nI (wi + 1))) vj (fT (fT vF 39 (upd (vF 39) ((nI dB)).toNatClampNeg rv)) 40 (upd (vF 40) ((nI dB)).toNatClampNeg 0)) vG) := fz_wD (WR_F 40 (by decide) _ rfl) hD
          refine lv_aload_n hx hb dX12_begin1_134 rfl (lv_at hl 1 rfl) ?_
          refine va_get (D := (dC, dI)) (ci := 12) (v := .ref (a 41)) (C := RX12) (T := TX12) (N := 163) (fs := fM (vS a (fT vi 75 (nI (wi + 1))) vj)) hx hb hts iwsRX12_begin1_in12 hown hK hP 0 rfl rfl 66 (by decide) (hts _ hm_r_X12_begin1_4) (fun _ h9 => h9) rfl dX12_begin1_135 ?_
          refine lv_aload_n hx hb dX12_begin1_138 rfl (lv_at hl 1 rfl) ?_
          refine va_get (D := (dC, dI)) (ci := 12) (v := .int (vi 74)) (C := RX12) (T := TX12) (N := 163) (fs := fM (vS a (fT vi 75 (nI (wi + 1))) vj)) hx hb hts iwsRX12_begin1_in12 hown hK hP 0 rfl rfl 74 (by decide) (hts _ hm_r_X12_begin1_2) (fun _ h9 => h9) rfl dX12_begin1_139 ?_
          refine lv_topi (fun y17 hy17 => ?_)
          obtain rfl : (nI dB) = y17 := (hy17.trans (hdB)).symm
          refine lv_iconst (v := (-1)) hx hb dX12_begin1_142 (by decide) ?_
          refine va_iast (cA := k 41) (n := 120) (f := (vF 41)) hx hb hK hP hD hS 42 41 (WR_get 41 (by decide)) (TR_get 41 (by decide)) (vp_in_nI (show dB < 120 by omega) (by omega)) dX12_begin1_143 (fun H locs hP hD hS => ?_)
          have hP : va_P (dC, dI) vwCl (WR a k h0 (fT vi 75 (nI (wi + 1))) vj (fT (fT (fT vF 39 (upd (vF 39) ((nI dB)).toNatClampNeg rv)) 40 (upd (vF 40) ((nI dB)).toNatClampNeg 0)) 41 (upd (vF 41) ((nI dB)).toNatClampNeg (-1))) vG) H := fz_w (WR_F 41 (by decide) _ rfl) hP
          have hD : va_D A (WR a k h0 (fT vi 75 (nI (wi + 1))) vj (fT (fT (fT vF 39 (upd (vF 39) ((nI dB)).toNatClampNeg rv)) 40 (upd (vF 40) ((nI dB)).toNatClampNeg 0)) 41 (upd (vF 41) ((nI dB)).toNatClampNeg (-1))) vG) := fz_wD (WR_F 41 (by decide) _ rfl) hD
          refine lv_aload_n hx hb dX12_begin1_144 rfl (lv_at hl 1 rfl) ?_
          refine va_get (D := (dC, dI)) (ci := 12) (v := .ref (a 42)) (C := RX12) (T := TX12) (N := 163) (fs := fM (vS a (fT vi 75 (nI (wi + 1))) vj)) hx hb hts iwsRX12_begin1_in12 hown hK hP 0 rfl rfl 67 (by decide) (hts _ hm_r_X12_begin1_5) (fun _ h9 => h9) rfl dX12_begin1_145 ?_
          refine lv_aload_n hx hb dX12_begin1_148 rfl (lv_at hl 1 rfl) ?_
          refine va_get (D := (dC, dI)) (ci := 12) (v := .int (vi 74)) (C := RX12) (T := TX12) (N := 163) (fs := fM (vS a (fT vi 75 (nI (wi + 1))) vj)) hx hb hts iwsRX12_begin1_in12 hown hK hP 0 rfl rfl 74 (by decide) (hts _ hm_r_X12_begin1_2) (fun _ h9 => h9) rfl dX12_begin1_149 ?_
          refine lv_topi (fun y18 hy18 => ?_)
          obtain rfl : (nI dB) = y18 := (hy18.trans (hdB)).symm
          refine lv_iconst (v := (-1)) hx hb dX12_begin1_152 (by decide) ?_
          refine va_iast (cA := k 42) (n := 120) (f := (vF 42)) hx hb hK hP hD hS 43 42 (WR_get 42 (by decide)) (TR_get 42 (by decide)) (vp_in_nI (show dB < 120 by omega) (by omega)) dX12_begin1_153 (fun H locs hP hD hS => ?_)
          have hP : va_P (dC, dI) vwCl (WR a k h0 (fT vi 75 (nI (wi + 1))) vj (fT (fT (fT (fT vF 39 (upd (vF 39) ((nI dB)).toNatClampNeg rv)) 40 (upd (vF 40) ((nI dB)).toNatClampNeg 0)) 41 (upd (vF 41) ((nI dB)).toNatClampNeg (-1))) 42 (upd (vF 42) ((nI dB)).toNatClampNeg (-1))) vG) H := fz_w (WR_F 42 (by decide) _ rfl) hP
          have hD : va_D A (WR a k h0 (fT vi 75 (nI (wi + 1))) vj (fT (fT (fT (fT vF 39 (upd (vF 39) ((nI dB)).toNatClampNeg rv)) 40 (upd (vF 40) ((nI dB)).toNatClampNeg 0)) 41 (upd (vF 41) ((nI dB)).toNatClampNeg (-1))) 42 (upd (vF 42) ((nI dB)).toNatClampNeg (-1))) vG) := fz_wD (WR_F 42 (by decide) _ rfl) hD
          refine lv_aload_n hx hb dX12_begin1_154 rfl (lv_at hl 1 rfl) ?_
          refine va_get (D := (dC, dI)) (ci := 12) (v := .ref (a 47)) (C := RX12) (T := TX12) (N := 163) (fs := fM (vS a (fT vi 75 (nI (wi + 1))) vj)) hx hb hts iwsRX12_begin1_in12 hown hK hP 0 rfl rfl 72 (by decide) (hts _ hm_r_X12_begin1_6) (fun _ h9 => h9) rfl dX12_begin1_155 ?_
          refine lv_aload_n hx hb dX12_begin1_158 rfl (lv_at hl 1 rfl) ?_
          refine va_get (D := (dC, dI)) (ci := 12) (v := .int (vi 74)) (C := RX12) (T := TX12) (N := 163) (fs := fM (vS a (fT vi 75 (nI (wi + 1))) vj)) hx hb hts iwsRX12_begin1_in12 hown hK hP 0 rfl rfl 74 (by decide) (hts _ hm_r_X12_begin1_2) (fun _ h9 => h9) rfl dX12_begin1_159 ?_
          refine lv_topi (fun y19 hy19 => ?_)
          obtain rfl : (nI dB) = y19 := (hy19.trans (hdB)).symm
          refine lv_aload_n hx hb dX12_begin1_162 rfl (lv_at hl 1 rfl) ?_
          refine va_get (D := (dC, dI)) (ci := 12) (v := .int (vi 19)) (C := RX12) (T := TX12) (N := 163) (fs := fM (vS a (fT vi 75 (nI (wi + 1))) vj)) hx hb hts iwsRX12_begin1_in12 hown hK hP 0 rfl rfl 19 (by decide) (hts _ hm_r_X12_begin1_7) (fun _ h9 => h9) rfl dX12_begin1_163 ?_
          refine lv_topi (fun y20 hy20 => ?_)
          obtain rfl : (nI fn) = y20 := (hy20.trans (hfr)).symm
          refine va_iast (cA := k 47) (n := 120) (f := (vF 47)) hx hb hK hP hD hS 48 47 (WR_get 47 (by decide)) (TR_get 47 (by decide)) (vp_in_nI (show dB < 120 by omega) (by omega)) dX12_begin1_166 (fun H locs hP hD hS => ?_)
          have hP : va_P (dC, dI) vwCl (WR a k h0 (fT vi 75 (nI (wi + 1))) vj (fT (fT (fT (fT (fT vF 39 (upd (vF 39) ((nI dB)).toNatClampNeg rv)) 40 (upd (vF 40) ((nI dB)).toNatClampNeg 0)) 41 (upd (vF 41) ((nI dB)).toNatClampNeg (-1))) 42 (upd (vF 42) ((nI dB)).toNatClampNeg (-1))) 47 (upd (vF 47) ((nI dB)).toNatClampNeg (nI fn))) vG) H := fz_w (WR_F 47 (by decide) _ rfl) hP
          have hD : va_D A (WR a k h0 (fT vi 75 (nI (wi + 1))) vj (fT (fT (fT (fT (fT vF 39 (upd (vF 39) ((nI dB)).toNatClampNeg rv)) 40 (upd (vF 40) ((nI dB)).toNatClampNeg 0)) 41 (upd (vF 41) ((nI dB)).toNatClampNeg (-1))) 42 (upd (vF 42) ((nI dB)).toNatClampNeg (-1))) 47 (upd (vF 47) ((nI dB)).toNatClampNeg (nI fn))) vG) := fz_wD (WR_F 47 (by decide) _ rfl) hD
          refine lv_aload_n hx hb dX12_begin1_167 rfl (lv_at hl 1 rfl) ?_
          refine va_get (D := (dC, dI)) (ci := 12) (v := .ref (a 48)) (C := RX12) (T := TX12) (N := 163) (fs := fM (vS a (fT vi 75 (nI (wi + 1))) vj)) hx hb hts iwsRX12_begin1_in12 hown hK hP 0 rfl rfl 73 (by decide) (hts _ hm_r_X12_begin1_8) (fun _ h9 => h9) rfl dX12_begin1_168 ?_
          refine lv_aload_n hx hb dX12_begin1_171 rfl (lv_at hl 1 rfl) ?_
          refine va_get (D := (dC, dI)) (ci := 12) (v := .int (vi 74)) (C := RX12) (T := TX12) (N := 163) (fs := fM (vS a (fT vi 75 (nI (wi + 1))) vj)) hx hb hts iwsRX12_begin1_in12 hown hK hP 0 rfl rfl 74 (by decide) (hts _ hm_r_X12_begin1_2) (fun _ h9 => h9) rfl dX12_begin1_172 ?_
          refine lv_topi (fun y21 hy21 => ?_)
          obtain rfl : (nI dB) = y21 := (hy21.trans (hdB)).symm
          refine lv_iload_n hx hb dX12_begin1_175 rfl (lv_at hl 0 rfl) ?_
          refine lv_if_eq (tgt := 183) hx hb dX12_begin1_176 (by decide) (fun c9 => False.elim (by have t9 : (zq).toInt = 0 := toI_eq c9 rfl (by decide); omega)) (fun c_176 => ?_)
          have t_176 : ¬ (zq).toInt = 0 := toI_neq c_176 rfl (by decide)
          refine lv_iconst (v := 1) hx hb dX12_begin1_179 (by decide) ?_
          refine lv_goto (tgt := 184) hx hb dX12_begin1_180 (by decide) ?_
          refine va_iast (cA := k 48) (n := 120) (f := (vF 48)) hx hb hK hP hD hS 49 48 (WR_get 48 (by decide)) (TR_get 48 (by decide)) (vp_in_nI (show dB < 120 by omega) (by omega)) dX12_begin1_184 (fun H locs hP hD hS => ?_)
          have hP : va_P (dC, dI) vwCl (WR a k h0 (fT vi 75 (nI (wi + 1))) vj (fT (fT (fT (fT (fT (fT vF 39 (upd (vF 39) ((nI dB)).toNatClampNeg rv)) 40 (upd (vF 40) ((nI dB)).toNatClampNeg 0)) 41 (upd (vF 41) ((nI dB)).toNatClampNeg (-1))) 42 (upd (vF 42) ((nI dB)).toNatClampNeg (-1))) 47 (upd (vF 47) ((nI dB)).toNatClampNeg (nI fn))) 48 (upd (vF 48) ((nI dB)).toNatClampNeg 1)) vG) H := fz_w (WR_F 48 (by decide) _ rfl) hP
          have hD : va_D A (WR a k h0 (fT vi 75 (nI (wi + 1))) vj (fT (fT (fT (fT (fT (fT vF 39 (upd (vF 39) ((nI dB)).toNatClampNeg rv)) 40 (upd (vF 40) ((nI dB)).toNatClampNeg 0)) 41 (upd (vF 41) ((nI dB)).toNatClampNeg (-1))) 42 (upd (vF 42) ((nI dB)).toNatClampNeg (-1))) 47 (upd (vF 47) ((nI dB)).toNatClampNeg (nI fn))) 48 (upd (vF 48) ((nI dB)).toNatClampNeg 1)) vG) := fz_wD (WR_F 48 (by decide) _ rfl) hD
          refine lv_aload_n hx hb dX12_begin1_185 rfl (lv_at hl 1 rfl) ?_
          refine lv_dup hx hb dX12_begin1_186 rfl ?_
          refine va_get (D := (dC, dI)) (ci := 12) (v := .int (vi 74)) (C := RX12) (T := TX12) (N := 163) (fs := fM (vS a (fT vi 75 (nI (wi + 1))) vj)) hx hb hts iwsRX12_begin1_in12 hown hK hP 0 rfl rfl 74 (by decide) (hts _ hm_r_X12_begin1_2) (fun _ h9 => h9) rfl dX12_begin1_187 ?_
          refine lv_topi (fun y22 hy22 => ?_)
          obtain rfl : (nI dB) = y22 := (hy22.trans (hdB)).symm
          refine lv_iconst (v := 1) hx hb dX12_begin1_190 (by decide) ?_
          refine lv_iadd hx hb dX12_begin1_191 ?_
          refine lv_topi (fun y23 hy23 => ?_)
          obtain rfl : (nI (dB + 1)) = y23 := (hy23.trans (nI_add dB 1)).symm
          refine va_put (D := (dC, dI)) (ci := 12) (v := .int (nI (dB + 1))) (ty := .int) (C := RX12) (T := TX12) (N := 163) (fs := fM (vS a (fT vi 75 (nI (wi + 1))) vj)) hx hb hts iwsRX12_begin1_in12 tyX12 tyX12_ok nmX12 hown hK hP hD hS 0 rfl rfl 74 (by decide) (hts _ hm_r_X12_begin1_2) (fun _ h9 => h9) rfl (by decide +kernel) rfl rfl (Nat.le_of_ble_eq_true rfl) dX12_begin1_192 (fun H locs hP hD hS => ?_)
          have hP : va_P (dC, dI) vwCl (WR a k h0 (fT (fT vi 75 (nI (wi + 1))) 74 (nI (dB + 1))) vj (fT (fT (fT (fT (fT (fT vF 39 (upd (vF 39) ((nI dB)).toNatClampNeg rv)) 40 (upd (vF 40) ((nI dB)).toNatClampNeg 0)) 41 (upd (vF 41) ((nI dB)).toNatClampNeg (-1))) 42 (upd (vF 42) ((nI dB)).toNatClampNeg (-1))) 47 (upd (vF 47) ((nI dB)).toNatClampNeg (nI fn))) 48 (upd (vF 48) ((nI dB)).toNatClampNeg 1)) vG) H := fz_w (WR_i 74 _ rfl) hP
          have hD : va_D A (WR a k h0 (fT (fT vi 75 (nI (wi + 1))) 74 (nI (dB + 1))) vj (fT (fT (fT (fT (fT (fT vF 39 (upd (vF 39) ((nI dB)).toNatClampNeg rv)) 40 (upd (vF 40) ((nI dB)).toNatClampNeg 0)) 41 (upd (vF 41) ((nI dB)).toNatClampNeg (-1))) 42 (upd (vF 42) ((nI dB)).toNatClampNeg (-1))) 47 (upd (vF 47) ((nI dB)).toNatClampNeg (nI fn))) 48 (upd (vF 48) ((nI dB)).toNatClampNeg 1)) vG) := fz_wD (WR_i 74 _ rfl) hD
          refine W.widen (k := 0) (n := 0) (by decide +kernel) (by decide +kernel) ?_
          have e9 : fT (fT (fT (fT vi 75 (nI (wi + 1))) 74 (nI (dB + 1))) 21 (vi 21)) 22 (vi 22) = fT (fT vi 75 (nI (wi + 1))) 74 (nI (dB + 1)) := (fT_id _ _ ((fT_ne _ _ (Nat.ne_of_beq_eq_false rfl)).trans ((fT_ne _ _ (Nat.ne_of_beq_eq_false rfl)).trans (fT_ne _ _ (Nat.ne_of_beq_eq_false rfl))))).trans (fT_id _ _ ((fT_ne _ _ (Nat.ne_of_beq_eq_false rfl)).trans (fT_ne _ _ (Nat.ne_of_beq_eq_false rfl))))
          have hP := wr_Pi e9 hP
          have hD := wr_Di e9 hD
          clear e9
          exact W.vret hx hb hr (fun t9_ ht hW => ⟨⟨((vi 21), (vi 22), (upd (vF 39) ((nI dB)).toNatClampNeg rv), (upd (vF 40) ((nI dB)).toNatClampNeg 0), (upd (vF 41) ((nI dB)).toNatClampNeg (-1)), (upd (vF 42) ((nI dB)).toNatClampNeg (-1)), (upd (vF 47) ((nI dB)).toNatClampNeg (nI fn)), (upd (vF 48) ((nI dB)).toNatClampNeg 1), (dB + 1), (wi + 1)), rfl, by (try dsimp only); exact ⟨hst0, Or.inr ⟨rfl, 1, ⟨by omega, fun _ => rfl, fun _ _ => rfl⟩, ⟨rfl, by omega, rfl⟩, by rw [upd_at (by omega), if_pos rfl], by rw [upd_at (by omega), if_pos rfl], by rw [upd_at (by omega), if_pos rfl], by rw [upd_at (by omega), if_pos rfl], by rw [upd_at (by omega), if_pos rfl]; decide⟩, fun q h9 => ⟨by rw [upd_at (by omega), if_neg h9], by rw [upd_at (by omega), if_neg h9], by rw [upd_at (by omega), if_neg h9], by rw [upd_at (by omega), if_neg h9], by rw [upd_at (by omega), if_neg h9]⟩, by omega⟩, by rw [ht]; exact hP, hD⟩, hS.F ht⟩) hS.2.2 dX12_begin1_195
        · have t_38 : ((wi : Nat) : Int) = 25 := toI_nne c_38 (nI_toInt (by omega)) (by decide)
          refine lv_iload_n hx hb dX12_begin1_41 rfl (lv_at hl 2 rfl) ?_
          refine lv_iconst (v := 2) hx hb dX12_begin1_42 (by decide) ?_
          refine W.cut (pc := 56) (fun H locs ls stk => ∃ (zt : Int32),  stk = [.int zt] ∧ va_P (dC, dI) vwCl (WR a k h0 vi vj vF vG) H ∧ va_D A (WR a k h0 vi vj vF vG) ∧ va_S A s.heap H locs ∧ lv_has ls 4 [(2, .int zq), (0, .ref h0), (1, .int rv)]) (fun join2 => ?_) ?_
          · refine lv_icmp_eq (tgt := 51) hx hb dX12_begin1_43 (by decide) (fun c_43 => ?_) (fun c_43 => ?_)
            · have t_43 : (rv).toInt = 2 := toI_eq c_43 rfl (by decide)
              refine lv_iconst (v := 1) hx hb dX12_begin1_51 (by decide) ?_
              refine lv_goto (tgt := 56) hx hb dX12_begin1_52 (by decide) ?_
              have hl : lv_has _ _ ([(2, .int zq), (0, .ref h0), (1, .int rv)]) := lv_sub hl [0, 1, 2] rfl
              exact join2 _ _ _ _ ⟨1, rfl, hP, hD, hS, hl⟩
            · have t_43 : ¬ (rv).toInt = 2 := toI_neq c_43 rfl (by decide)
              refine lv_iload_n hx hb dX12_begin1_46 rfl (lv_at hl 2 rfl) ?_
              refine lv_iconst (v := 3) hx hb dX12_begin1_47 (by decide) ?_
              refine lv_icmp_ne (tgt := 55) hx hb dX12_begin1_48 (by decide) (fun c_48 => ?_) (fun c_48 => ?_)
              · have t_48 : (rv).toInt ≠ 3 := toI_ne c_48 rfl (by decide)
                refine lv_iconst (v := 0) hx hb dX12_begin1_55 (by decide) ?_
                have hl : lv_has _ _ ([(2, .int zq), (0, .ref h0), (1, .int rv)]) := lv_sub hl [0, 1, 2] rfl
                exact join2 _ _ _ _ ⟨0, rfl, hP, hD, hS, hl⟩
              · have t_48 : (rv).toInt = 3 := toI_nne c_48 rfl (by decide)
                refine lv_iconst (v := 1) hx hb dX12_begin1_51 (by decide) ?_
                refine lv_goto (tgt := 56) hx hb dX12_begin1_52 (by decide) ?_
                have hl : lv_has _ _ ([(2, .int zq), (0, .ref h0), (1, .int rv)]) := lv_sub hl [0, 1, 2] rfl
                exact join2 _ _ _ _ ⟨1, rfl, hP, hD, hS, hl⟩
          · rintro H locs ls stk ⟨zt, rfl, hP, hD, hS, hl⟩
            refine lv_istore_n hx hb dX12_begin1_56 rfl hl (by decide) rfl (fun ls (hl : lv_has ls _ ([(3, .int zt), (2, .int zq), (0, .ref h0), (1, .int rv)])) => ?_)
            refine lv_iload_n hx hb dX12_begin1_57 rfl (lv_at hl 0 rfl) ?_
            refine lv_if_eq (tgt := 79) hx hb dX12_begin1_58 (by decide) (fun c_58 => ?_) (fun c_58 => ?_)
            · have t_58 : (zt).toInt = 0 := toI_eq c_58 rfl (by decide)
              refine lv_aload_n hx hb dX12_begin1_79 rfl (lv_at hl 2 rfl) ?_
              have hFc := allFree hD hS hA
              refine va_calli (va_runV (As := []) (rest := []) ⟨hx, hb, hml, hown, hts⟩ (r_X12_canBegin l dC dI a k h0 vi vj vF vG tp an fn nm se pa va bd hTp (by first | with_reducible assumption | decide | omega | rfl | assumption) ha0 hfr (by first | with_reducible assumption | decide | omega | rfl | assumption) (by first | with_reducible assumption | decide | omega | rfl | assumption) hnm (by first | with_reducible assumption | decide | omega | rfl | assumption) (by first | with_reducible assumption | decide | omega | rfl | assumption) (by first | with_reducible assumption | decide | omega | rfl | assumption) hbd (by first | with_reducible assumption | decide | omega | rfl | assumption) (by first | with_reducible assumption | decide | omega | rfl | assumption) H.size) (cwV 0 hts gwsRX12_begin1_1 rfl rfl rfl hd_yX12_canBegin_RX12 (by decide +kernel)) (fz_pre (va_recv hK hP (ci := 12) (q0 := 0) rfl rfl) hP hK hD) rfl rfl hl.1 rfl (lv_room (Nat.le_of_ble_eq_true rfl)) dX12_begin1_80 (by decide +kernel)) hS (fun q _ h => hFc q h) hFc (fun r80 u t9_ H locs ht hvm hw9 hB9 hz1 hk1 hS => ?_)
              revert u hw9 hB9
              refine fz_p2 ?_
              intro s280 p280 hw9 hB9
              try dsimp only at hw9 hB9
              have hP : va_P (dC, dI) vwCl (WR a k h0 (fT (fT vi 21 s280) 22 p280) vj vF vG) H := fz_P ht hB9.1
              have hD := fz_sd hP (hB9.2.weaken (fun _ q _ h => hFc q.1 h)) rfl
              rcases hw9 with ⟨rfl, f80_0, f80_1, f80_2⟩ | ⟨rfl, f80_0⟩
              · have f80_1 : CbW (vi 18) (vi 20) := f80_1
                have f80_2 : CbQ (vi 18) (vF 9) (vF 10) (vF 11) (vF 12) (vF 14) (vF 15) fn an nm bd := f80_2
                refine lv_if_eq (tgt := 95) hx hb dX12_begin1_83 (by decide) (fun c9 => absurd c9 (by decide)) (fun _ => ?_)
                refine lv_aload_n hx hb dX12_begin1_86 rfl (lv_at hl 2 rfl) ?_
                refine lv_iconst (v := 4) hx hb dX12_begin1_87 (by decide) ?_
                refine lv_aload_n hx hb dX12_begin1_88 rfl (lv_at hl 2 rfl) ?_
                refine va_get (D := (dC, dI)) (ci := 12) (v := .int (vi 19)) (C := RX12) (T := TX12) (N := 163) (fs := fM (vS a (fT (fT vi 21 s280) 22 p280) vj)) hx hb hts iwsRX12_begin1_in12 hown hK hP 0 rfl rfl 19 (by decide) (hts _ hm_r_X12_begin1_7) (fun _ h9 => h9) rfl dX12_begin1_89 ?_
                refine lv_topi (fun y24 hy24 => ?_)
                obtain rfl : (nI fn) = y24 := (hy24.trans (hfr)).symm
                have hFc := allFree hD hS hA
                refine va_callv (va_runV (As := [.int 4, .int (nI fn)]) (rest := []) ⟨hx, hb, hml, hown, hts⟩ (r_X12_faultAt l dC dI a k h0 (fT (fT vi 21 s280) 22 p280) vj vF vG 4 (nI fn) (by first | with_reducible assumption | decide | omega | rfl | assumption) H.size) (cwV 2 hts gwsRX12_begin1_2 rfl rfl rfl hd_yX12_faultAt_RX12 (by decide +kernel)) (fz_pre (va_recv hK hP (ci := 12) (q0 := 0) rfl rfl) hP hK hD) rfl rfl hl.1 rfl (lv_room (Nat.le_of_ble_eq_true rfl)) dX12_begin1_92 (by decide +kernel)) hS (fun q _ h => hFc q h) hFc (fun u t9_ H locs ht hvm hw9 hB9 hz1 hk1 hS => ?_)
                revert u hw9 hB9
                refine fz_p2 ?_
                intro s292 p292 hw9 hB9
                try dsimp only at hw9 hB9
                have e9i : fT (fT vi 21 s292) 22 p292 = fT (fT (fT (fT vi 21 s280) 22 p280) 21 s292) 22 p292 := ((congrArg (fun g9 => fT g9 22 p292) ((fT_sw _ _ _ (Nat.ne_of_beq_eq_false rfl)).trans (congrArg (fun g9 => fT g9 22 p280) (fT_sm _ _ _ _)))).trans (fT_sm _ _ _ _)).symm
                have hP := wr_Pi e9i (fz_P ht hB9.1)
                have hD := wr_Di e9i (hB9.2.weaken (fun _ q _ h => hFc q.1 h))
                clear e9i
                revert hw9
                refine fz_a2 ?_
                intro f92_0 f92_1
                have f92_0 : (0 < s280.toInt ∧ s292 = s280 ∧ p292 = p280) ∨ (¬ 0 < s280.toInt ∧ s292 = 4 ∧ p292 = (nI fn)) := f92_0
                refine W.widen (k := 0) (n := 0) (by decide +kernel) (by decide +kernel) ?_
                have e9 : fT (fT (fT (fT vi 75 (nI wi)) 74 (nI dB)) 21 s292) 22 p292 = fT (fT vi 21 s292) 22 p292 := ch_E vi [nI wi, nI dB, s292, p292] [(22, 4), (21, 3), (74, 2), (75, 1)] [(22, 4), (21, 3)] [75, 74] ⟨show nI wi = vi 75 from (by first | with_reducible rfl | with_reducible assumption | (symm; with_reducible assumption) | rfl | assumption | (symm; assumption) | (subst_vars; rfl)), show nI dB = vi 74 from (by first | with_reducible rfl | with_reducible assumption | (symm; with_reducible assumption) | rfl | assumption | (symm; assumption) | (subst_vars; rfl)), trivial⟩ (by decide +kernel)
                have hP := wr_Pi e9 hP
                have hD := wr_Di e9 hD
                clear e9
                have e9 : fT (fT (fT (fT (fT (fT vF 39 (vF 39)) 40 (vF 40)) 41 (vF 41)) 42 (vF 42)) 47 (vF 47)) 48 (vF 48) = vF := ch_E vF [] [(48, 0), (47, 0), (42, 0), (41, 0), (40, 0), (39, 0)] [] [] trivial (by decide +kernel)
                have hP := wr_PF e9 hP
                have hD := wr_DF e9 hD
                clear e9
                exact W.vret hx hb hr (fun t9_ ht hW => ⟨⟨(s292, p292, (vF 39), (vF 40), (vF 41), (vF 42), (vF 47), (vF 48), dB, wi), rfl, by (try dsimp only); exact ⟨by omega, Or.inl (by omega), fun _ _ => ⟨rfl, rfl, rfl, rfl, rfl⟩, by omega⟩, by rw [ht]; exact hP, hD⟩, hS.F ht⟩) hS.2.2 dX12_begin1_95
              · refine lv_if_eq (tgt := 95) hx hb dX12_begin1_83 (by decide) (fun _ => ?_) (fun c9 => absurd (by decide) c9)
                refine W.widen (k := 0) (n := 0) (by decide +kernel) (by decide +kernel) ?_
                have e9 : fT (fT (fT (fT vi 75 (nI wi)) 74 (nI dB)) 21 s280) 22 p280 = fT (fT vi 21 s280) 22 p280 := ch_E vi [nI wi, nI dB, s280, p280] [(22, 4), (21, 3), (74, 2), (75, 1)] [(22, 4), (21, 3)] [75, 74] ⟨show nI wi = vi 75 from (by first | with_reducible rfl | with_reducible assumption | (symm; with_reducible assumption) | rfl | assumption | (symm; assumption) | (subst_vars; rfl)), show nI dB = vi 74 from (by first | with_reducible rfl | with_reducible assumption | (symm; with_reducible assumption) | rfl | assumption | (symm; assumption) | (subst_vars; rfl)), trivial⟩ (by decide +kernel)
                have hP := wr_Pi e9 hP
                have hD := wr_Di e9 hD
                clear e9
                have e9 : fT (fT (fT (fT (fT (fT vF 39 (vF 39)) 40 (vF 40)) 41 (vF 41)) 42 (vF 42)) 47 (vF 47)) 48 (vF 48) = vF := ch_E vF [] [(48, 0), (47, 0), (42, 0), (41, 0), (40, 0), (39, 0)] [] [] trivial (by decide +kernel)
                have hP := wr_PF e9 hP
                have hD := wr_DF e9 hD
                clear e9
                exact W.vret hx hb hr (fun t9_ ht hW => ⟨⟨(s280, p280, (vF 39), (vF 40), (vF 41), (vF 42), (vF 47), (vF 48), dB, wi), rfl, by (try dsimp only); exact ⟨by omega, Or.inl (by omega), fun _ _ => ⟨rfl, rfl, rfl, rfl, rfl⟩, by omega⟩, by rw [ht]; exact hP, hD⟩, hS.F ht⟩) hS.2.2 dX12_begin1_95
            · have t_58 : ¬ (zt).toInt = 0 := toI_neq c_58 rfl (by decide)
              refine lv_aload_n hx hb dX12_begin1_61 rfl (lv_at hl 2 rfl) ?_
              refine lv_bipush (v := 10) hx hb dX12_begin1_62 (by decide) ?_
              have hFc := allFree hD hS hA
              refine va_calli (va_runV (As := [.int 10]) (rest := []) ⟨hx, hb, hml, hown, hts⟩ (r_X12_isKey l dC dI a k h0 vi vj vF vG 10 H.size) (cwV 1 hts gwsRX12_begin1_0 rfl rfl rfl hd_yX12_isKey_RX12 (by decide +kernel)) (fz_pre (va_recv hK hP (ci := 12) (q0 := 0) rfl rfl) hP hK hD) rfl rfl hl.1 rfl (lv_room (Nat.le_of_ble_eq_true rfl)) dX12_begin1_64 (by decide +kernel)) hS (fun q _ h => hFc q h) hFc (fun r64 u t9_ H locs ht hvm hw9 hB9 hz1 hk1 hS => ?_)
              have hP : va_P (dC, dI) vwCl (WR a k h0 vi vj vF vG) H := fz_P ht hB9.1
              have hD := fz_sd hP (hB9.2.weaken (fun _ q _ h => hFc q.1 h)) rfl
              rcases hw9 with ⟨rfl, f64_0, f64_1⟩ | ⟨rfl, f64_0⟩
              · have f64_0 : (vi 18).toInt = 2 := f64_0
                have f64_1 : (vi 20) = 10 := f64_1
                refine lv_if_ne (tgt := 86) hx hb dX12_begin1_67 (by decide) (fun _ => ?_) (fun c9 => absurd c9 (by decide))
                refine lv_aload_n hx hb dX12_begin1_86 rfl (lv_at hl 2 rfl) ?_
                refine lv_iconst (v := 4) hx hb dX12_begin1_87 (by decide) ?_
                refine lv_aload_n hx hb dX12_begin1_88 rfl (lv_at hl 2 rfl) ?_
                refine va_get (D := (dC, dI)) (ci := 12) (v := .int (vi 19)) (C := RX12) (T := TX12) (N := 163) (fs := fM (vS a vi vj)) hx hb hts iwsRX12_begin1_in12 hown hK hP 0 rfl rfl 19 (by decide) (hts _ hm_r_X12_begin1_7) (fun _ h9 => h9) rfl dX12_begin1_89 ?_
                refine lv_topi (fun y25 hy25 => ?_)
                obtain rfl : (nI fn) = y25 := (hy25.trans (hfr)).symm
                have hFc := allFree hD hS hA
                refine va_callv (va_runV (As := [.int 4, .int (nI fn)]) (rest := []) ⟨hx, hb, hml, hown, hts⟩ (r_X12_faultAt l dC dI a k h0 vi vj vF vG 4 (nI fn) (by first | with_reducible assumption | decide | omega | rfl | assumption) H.size) (cwV 2 hts gwsRX12_begin1_2 rfl rfl rfl hd_yX12_faultAt_RX12 (by decide +kernel)) (fz_pre (va_recv hK hP (ci := 12) (q0 := 0) rfl rfl) hP hK hD) rfl rfl hl.1 rfl (lv_room (Nat.le_of_ble_eq_true rfl)) dX12_begin1_92 (by decide +kernel)) hS (fun q _ h => hFc q h) hFc (fun u t9_ H locs ht hvm hw9 hB9 hz1 hk1 hS => ?_)
                revert u hw9 hB9
                refine fz_p2 ?_
                intro s292_1 p292_1 hw9 hB9
                try dsimp only at hw9 hB9
                have hP : va_P (dC, dI) vwCl (WR a k h0 (fT (fT vi 21 s292_1) 22 p292_1) vj vF vG) H := fz_P ht hB9.1
                have hD := fz_sd hP (hB9.2.weaken (fun _ q _ h => hFc q.1 h)) rfl
                revert hw9
                refine fz_a2 ?_
                intro f92_1_0 f92_1_1
                have f92_1_0 : (0 < (vi 21).toInt ∧ s292_1 = (vi 21) ∧ p292_1 = (vi 22)) ∨ (¬ 0 < (vi 21).toInt ∧ s292_1 = 4 ∧ p292_1 = (nI fn)) := f92_1_0
                refine W.widen (k := 0) (n := 0) (by decide +kernel) (by decide +kernel) ?_
                have e9 : fT (fT (fT (fT vi 75 (nI wi)) 74 (nI dB)) 21 s292_1) 22 p292_1 = fT (fT vi 21 s292_1) 22 p292_1 := ch_E vi [nI wi, nI dB, s292_1, p292_1] [(22, 4), (21, 3), (74, 2), (75, 1)] [(22, 4), (21, 3)] [75, 74] ⟨show nI wi = vi 75 from (by first | with_reducible rfl | with_reducible assumption | (symm; with_reducible assumption) | rfl | assumption | (symm; assumption) | (subst_vars; rfl)), show nI dB = vi 74 from (by first | with_reducible rfl | with_reducible assumption | (symm; with_reducible assumption) | rfl | assumption | (symm; assumption) | (subst_vars; rfl)), trivial⟩ (by decide +kernel)
                have hP := wr_Pi e9 hP
                have hD := wr_Di e9 hD
                clear e9
                have e9 : fT (fT (fT (fT (fT (fT vF 39 (vF 39)) 40 (vF 40)) 41 (vF 41)) 42 (vF 42)) 47 (vF 47)) 48 (vF 48) = vF := ch_E vF [] [(48, 0), (47, 0), (42, 0), (41, 0), (40, 0), (39, 0)] [] [] trivial (by decide +kernel)
                have hP := wr_PF e9 hP
                have hD := wr_DF e9 hD
                clear e9
                exact W.vret hx hb hr (fun t9_ ht hW => ⟨⟨(s292_1, p292_1, (vF 39), (vF 40), (vF 41), (vF 42), (vF 47), (vF 48), dB, wi), rfl, by (try dsimp only); exact ⟨by omega, Or.inl (by omega), fun _ _ => ⟨rfl, rfl, rfl, rfl, rfl⟩, by omega⟩, by rw [ht]; exact hP, hD⟩, hS.F ht⟩) hS.2.2 dX12_begin1_95
              · have f64_0 : ¬ ((vi 18).toInt = 2 ∧ (vi 20) = 10) := f64_0
                refine lv_if_ne (tgt := 86) hx hb dX12_begin1_67 (by decide) (fun c9 => absurd c9 (by decide)) (fun _ => ?_)
                refine lv_aload_n hx hb dX12_begin1_70 rfl (lv_at hl 2 rfl) ?_
                refine lv_bipush (v := 123) hx hb dX12_begin1_71 (by decide) ?_
                have hFc := allFree hD hS hA
                refine va_calli (va_runV (As := [.int 123]) (rest := []) ⟨hx, hb, hml, hown, hts⟩ (r_X12_isSign l dC dI a k h0 vi vj vF vG 123 H.size) (cwV 1 hts gwsRX12_begin1_3 rfl rfl rfl hd_yX12_isSign_RX12 (by decide +kernel)) (fz_pre (va_recv hK hP (ci := 12) (q0 := 0) rfl rfl) hP hK hD) rfl rfl hl.1 rfl (lv_room (Nat.le_of_ble_eq_true rfl)) dX12_begin1_73 (by decide +kernel)) hS (fun q _ h => hFc q h) hFc (fun r73 u t9_ H locs ht hvm hw9 hB9 hz1 hk1 hS => ?_)
                have hP : va_P (dC, dI) vwCl (WR a k h0 vi vj vF vG) H := fz_P ht hB9.1
                have hD := fz_sd hP (hB9.2.weaken (fun _ q _ h => hFc q.1 h)) rfl
                rcases hw9 with ⟨rfl, f73_0, f73_1⟩ | ⟨rfl, f73_0⟩
                · have f73_0 : (vi 18).toInt = 4 := f73_0
                  have f73_1 : (vi 20) = 123 := f73_1
                  refine lv_if_ne (tgt := 86) hx hb dX12_begin1_76 (by decide) (fun _ => ?_) (fun c9 => absurd c9 (by decide))
                  refine lv_aload_n hx hb dX12_begin1_86 rfl (lv_at hl 2 rfl) ?_
                  refine lv_iconst (v := 4) hx hb dX12_begin1_87 (by decide) ?_
                  refine lv_aload_n hx hb dX12_begin1_88 rfl (lv_at hl 2 rfl) ?_
                  refine va_get (D := (dC, dI)) (ci := 12) (v := .int (vi 19)) (C := RX12) (T := TX12) (N := 163) (fs := fM (vS a vi vj)) hx hb hts iwsRX12_begin1_in12 hown hK hP 0 rfl rfl 19 (by decide) (hts _ hm_r_X12_begin1_7) (fun _ h9 => h9) rfl dX12_begin1_89 ?_
                  refine lv_topi (fun y26 hy26 => ?_)
                  obtain rfl : (nI fn) = y26 := (hy26.trans (hfr)).symm
                  have hFc := allFree hD hS hA
                  refine va_callv (va_runV (As := [.int 4, .int (nI fn)]) (rest := []) ⟨hx, hb, hml, hown, hts⟩ (r_X12_faultAt l dC dI a k h0 vi vj vF vG 4 (nI fn) (by first | with_reducible assumption | decide | omega | rfl | assumption) H.size) (cwV 2 hts gwsRX12_begin1_2 rfl rfl rfl hd_yX12_faultAt_RX12 (by decide +kernel)) (fz_pre (va_recv hK hP (ci := 12) (q0 := 0) rfl rfl) hP hK hD) rfl rfl hl.1 rfl (lv_room (Nat.le_of_ble_eq_true rfl)) dX12_begin1_92 (by decide +kernel)) hS (fun q _ h => hFc q h) hFc (fun u t9_ H locs ht hvm hw9 hB9 hz1 hk1 hS => ?_)
                  revert u hw9 hB9
                  refine fz_p2 ?_
                  intro s292_2 p292_2 hw9 hB9
                  try dsimp only at hw9 hB9
                  have hP : va_P (dC, dI) vwCl (WR a k h0 (fT (fT vi 21 s292_2) 22 p292_2) vj vF vG) H := fz_P ht hB9.1
                  have hD := fz_sd hP (hB9.2.weaken (fun _ q _ h => hFc q.1 h)) rfl
                  revert hw9
                  refine fz_a2 ?_
                  intro f92_2_0 f92_2_1
                  have f92_2_0 : (0 < (vi 21).toInt ∧ s292_2 = (vi 21) ∧ p292_2 = (vi 22)) ∨ (¬ 0 < (vi 21).toInt ∧ s292_2 = 4 ∧ p292_2 = (nI fn)) := f92_2_0
                  refine W.widen (k := 0) (n := 0) (by decide +kernel) (by decide +kernel) ?_
                  have e9 : fT (fT (fT (fT vi 75 (nI wi)) 74 (nI dB)) 21 s292_2) 22 p292_2 = fT (fT vi 21 s292_2) 22 p292_2 := ch_E vi [nI wi, nI dB, s292_2, p292_2] [(22, 4), (21, 3), (74, 2), (75, 1)] [(22, 4), (21, 3)] [75, 74] ⟨show nI wi = vi 75 from (by first | with_reducible rfl | with_reducible assumption | (symm; with_reducible assumption) | rfl | assumption | (symm; assumption) | (subst_vars; rfl)), show nI dB = vi 74 from (by first | with_reducible rfl | with_reducible assumption | (symm; with_reducible assumption) | rfl | assumption | (symm; assumption) | (subst_vars; rfl)), trivial⟩ (by decide +kernel)
                  have hP := wr_Pi e9 hP
                  have hD := wr_Di e9 hD
                  clear e9
                  have e9 : fT (fT (fT (fT (fT (fT vF 39 (vF 39)) 40 (vF 40)) 41 (vF 41)) 42 (vF 42)) 47 (vF 47)) 48 (vF 48) = vF := ch_E vF [] [(48, 0), (47, 0), (42, 0), (41, 0), (40, 0), (39, 0)] [] [] trivial (by decide +kernel)
                  have hP := wr_PF e9 hP
                  have hD := wr_DF e9 hD
                  clear e9
                  exact W.vret hx hb hr (fun t9_ ht hW => ⟨⟨(s292_2, p292_2, (vF 39), (vF 40), (vF 41), (vF 42), (vF 47), (vF 48), dB, wi), rfl, by (try dsimp only); exact ⟨by omega, Or.inl (by omega), fun _ _ => ⟨rfl, rfl, rfl, rfl, rfl⟩, by omega⟩, by rw [ht]; exact hP, hD⟩, hS.F ht⟩) hS.2.2 dX12_begin1_95
                · have f73_0 : ¬ ((vi 18).toInt = 4 ∧ (vi 20) = 123) := f73_0
                  refine lv_if_ne (tgt := 86) hx hb dX12_begin1_76 (by decide) (fun c9 => absurd c9 (by decide)) (fun _ => ?_)
                  refine lv_aload_n hx hb dX12_begin1_79 rfl (lv_at hl 2 rfl) ?_
                  have hFc := allFree hD hS hA
                  refine va_calli (va_runV (As := []) (rest := []) ⟨hx, hb, hml, hown, hts⟩ (r_X12_canBegin l dC dI a k h0 vi vj vF vG tp an fn nm se pa va bd hTp (by first | with_reducible assumption | decide | omega | rfl | assumption) ha0 hfr (by first | with_reducible assumption | decide | omega | rfl | assumption) (by first | with_reducible assumption | decide | omega | rfl | assumption) hnm (by first | with_reducible assumption | decide | omega | rfl | assumption) (by first | with_reducible assumption | decide | omega | rfl | assumption) (by first | with_reducible assumption | decide | omega | rfl | assumption) hbd (by first | with_reducible assumption | decide | omega | rfl | assumption) (by first | with_reducible assumption | decide | omega | rfl | assumption) H.size) (cwV 0 hts gwsRX12_begin1_1 rfl rfl rfl hd_yX12_canBegin_RX12 (by decide +kernel)) (fz_pre (va_recv hK hP (ci := 12) (q0 := 0) rfl rfl) hP hK hD) rfl rfl hl.1 rfl (lv_room (Nat.le_of_ble_eq_true rfl)) dX12_begin1_80 (by decide +kernel)) hS (fun q _ h => hFc q h) hFc (fun r80_1 u t9_ H locs ht hvm hw9 hB9 hz1 hk1 hS => ?_)
                  revert u hw9 hB9
                  refine fz_p2 ?_
                  intro s280_1 p280_1 hw9 hB9
                  try dsimp only at hw9 hB9
                  have hP : va_P (dC, dI) vwCl (WR a k h0 (fT (fT vi 21 s280_1) 22 p280_1) vj vF vG) H := fz_P ht hB9.1
                  have hD := fz_sd hP (hB9.2.weaken (fun _ q _ h => hFc q.1 h)) rfl
                  rcases hw9 with ⟨rfl, f80_1_0, f80_1_1, f80_1_2⟩ | ⟨rfl, f80_1_0⟩
                  · have f80_1_1 : CbW (vi 18) (vi 20) := f80_1_1
                    have f80_1_2 : CbQ (vi 18) (vF 9) (vF 10) (vF 11) (vF 12) (vF 14) (vF 15) fn an nm bd := f80_1_2
                    refine lv_if_eq (tgt := 95) hx hb dX12_begin1_83 (by decide) (fun c9 => absurd c9 (by decide)) (fun _ => ?_)
                    refine lv_aload_n hx hb dX12_begin1_86 rfl (lv_at hl 2 rfl) ?_
                    refine lv_iconst (v := 4) hx hb dX12_begin1_87 (by decide) ?_
                    refine lv_aload_n hx hb dX12_begin1_88 rfl (lv_at hl 2 rfl) ?_
                    refine va_get (D := (dC, dI)) (ci := 12) (v := .int (vi 19)) (C := RX12) (T := TX12) (N := 163) (fs := fM (vS a (fT (fT vi 21 s280_1) 22 p280_1) vj)) hx hb hts iwsRX12_begin1_in12 hown hK hP 0 rfl rfl 19 (by decide) (hts _ hm_r_X12_begin1_7) (fun _ h9 => h9) rfl dX12_begin1_89 ?_
                    refine lv_topi (fun y27 hy27 => ?_)
                    obtain rfl : (nI fn) = y27 := (hy27.trans (hfr)).symm
                    have hFc := allFree hD hS hA
                    refine va_callv (va_runV (As := [.int 4, .int (nI fn)]) (rest := []) ⟨hx, hb, hml, hown, hts⟩ (r_X12_faultAt l dC dI a k h0 (fT (fT vi 21 s280_1) 22 p280_1) vj vF vG 4 (nI fn) (by first | with_reducible assumption | decide | omega | rfl | assumption) H.size) (cwV 2 hts gwsRX12_begin1_2 rfl rfl rfl hd_yX12_faultAt_RX12 (by decide +kernel)) (fz_pre (va_recv hK hP (ci := 12) (q0 := 0) rfl rfl) hP hK hD) rfl rfl hl.1 rfl (lv_room (Nat.le_of_ble_eq_true rfl)) dX12_begin1_92 (by decide +kernel)) hS (fun q _ h => hFc q h) hFc (fun u t9_ H locs ht hvm hw9 hB9 hz1 hk1 hS => ?_)
                    revert u hw9 hB9
                    refine fz_p2 ?_
                    intro s292_3 p292_3 hw9 hB9
                    try dsimp only at hw9 hB9
                    have e9i : fT (fT vi 21 s292_3) 22 p292_3 = fT (fT (fT (fT vi 21 s280_1) 22 p280_1) 21 s292_3) 22 p292_3 := ((congrArg (fun g9 => fT g9 22 p292_3) ((fT_sw _ _ _ (Nat.ne_of_beq_eq_false rfl)).trans (congrArg (fun g9 => fT g9 22 p280_1) (fT_sm _ _ _ _)))).trans (fT_sm _ _ _ _)).symm
                    have hP := wr_Pi e9i (fz_P ht hB9.1)
                    have hD := wr_Di e9i (hB9.2.weaken (fun _ q _ h => hFc q.1 h))
                    clear e9i
                    revert hw9
                    refine fz_a2 ?_
                    intro f92_3_0 f92_3_1
                    have f92_3_0 : (0 < s280_1.toInt ∧ s292_3 = s280_1 ∧ p292_3 = p280_1) ∨ (¬ 0 < s280_1.toInt ∧ s292_3 = 4 ∧ p292_3 = (nI fn)) := f92_3_0
                    refine W.widen (k := 0) (n := 0) (by decide +kernel) (by decide +kernel) ?_
                    have e9 : fT (fT (fT (fT vi 75 (nI wi)) 74 (nI dB)) 21 s292_3) 22 p292_3 = fT (fT vi 21 s292_3) 22 p292_3 := ch_E vi [nI wi, nI dB, s292_3, p292_3] [(22, 4), (21, 3), (74, 2), (75, 1)] [(22, 4), (21, 3)] [75, 74] ⟨show nI wi = vi 75 from (by first | with_reducible rfl | with_reducible assumption | (symm; with_reducible assumption) | rfl | assumption | (symm; assumption) | (subst_vars; rfl)), show nI dB = vi 74 from (by first | with_reducible rfl | with_reducible assumption | (symm; with_reducible assumption) | rfl | assumption | (symm; assumption) | (subst_vars; rfl)), trivial⟩ (by decide +kernel)
                    have hP := wr_Pi e9 hP
                    have hD := wr_Di e9 hD
                    clear e9
                    have e9 : fT (fT (fT (fT (fT (fT vF 39 (vF 39)) 40 (vF 40)) 41 (vF 41)) 42 (vF 42)) 47 (vF 47)) 48 (vF 48) = vF := ch_E vF [] [(48, 0), (47, 0), (42, 0), (41, 0), (40, 0), (39, 0)] [] [] trivial (by decide +kernel)
                    have hP := wr_PF e9 hP
                    have hD := wr_DF e9 hD
                    clear e9
                    exact W.vret hx hb hr (fun t9_ ht hW => ⟨⟨(s292_3, p292_3, (vF 39), (vF 40), (vF 41), (vF 42), (vF 47), (vF 48), dB, wi), rfl, by (try dsimp only); exact ⟨by omega, Or.inl (by omega), fun _ _ => ⟨rfl, rfl, rfl, rfl, rfl⟩, by omega⟩, by rw [ht]; exact hP, hD⟩, hS.F ht⟩) hS.2.2 dX12_begin1_95
                  · refine lv_if_eq (tgt := 95) hx hb dX12_begin1_83 (by decide) (fun _ => ?_) (fun c9 => absurd (by decide) c9)
                    refine W.widen (k := 0) (n := 0) (by decide +kernel) (by decide +kernel) ?_
                    have e9 : fT (fT (fT (fT vi 75 (nI wi)) 74 (nI dB)) 21 s280_1) 22 p280_1 = fT (fT vi 21 s280_1) 22 p280_1 := ch_E vi [nI wi, nI dB, s280_1, p280_1] [(22, 4), (21, 3), (74, 2), (75, 1)] [(22, 4), (21, 3)] [75, 74] ⟨show nI wi = vi 75 from (by first | with_reducible rfl | with_reducible assumption | (symm; with_reducible assumption) | rfl | assumption | (symm; assumption) | (subst_vars; rfl)), show nI dB = vi 74 from (by first | with_reducible rfl | with_reducible assumption | (symm; with_reducible assumption) | rfl | assumption | (symm; assumption) | (subst_vars; rfl)), trivial⟩ (by decide +kernel)
                    have hP := wr_Pi e9 hP
                    have hD := wr_Di e9 hD
                    clear e9
                    have e9 : fT (fT (fT (fT (fT (fT vF 39 (vF 39)) 40 (vF 40)) 41 (vF 41)) 42 (vF 42)) 47 (vF 47)) 48 (vF 48) = vF := ch_E vF [] [(48, 0), (47, 0), (42, 0), (41, 0), (40, 0), (39, 0)] [] [] trivial (by decide +kernel)
                    have hP := wr_PF e9 hP
                    have hD := wr_DF e9 hD
                    clear e9
                    exact W.vret hx hb hr (fun t9_ ht hW => ⟨⟨(s280_1, p280_1, (vF 39), (vF 40), (vF 41), (vF 42), (vF 47), (vF 48), dB, wi), rfl, by (try dsimp only); exact ⟨by omega, Or.inl (by omega), fun _ _ => ⟨rfl, rfl, rfl, rfl, rfl⟩, by omega⟩, by rw [ht]; exact hP, hD⟩, hS.F ht⟩) hS.2.2 dX12_begin1_95
  · have t_4 : ¬ ((vi 21)).toInt ≤ 0 := toI_nle c_4 rfl (by decide)
    refine W.widen (k := 0) (n := 0) (by decide +kernel) (by decide +kernel) ?_
    have e9 : fT (fT (fT (fT vi 75 (nI wi)) 74 (nI dB)) 21 (vi 21)) 22 (vi 22) = vi := ch_E vi [nI wi, nI dB] [(22, 0), (21, 0), (74, 2), (75, 1)] [] [75, 74] ⟨show nI wi = vi 75 from (by first | with_reducible rfl | with_reducible assumption | (symm; with_reducible assumption) | rfl | assumption | (symm; assumption) | (subst_vars; rfl)), show nI dB = vi 74 from (by first | with_reducible rfl | with_reducible assumption | (symm; with_reducible assumption) | rfl | assumption | (symm; assumption) | (subst_vars; rfl)), trivial⟩ (by decide +kernel)
    have hP := wr_Pi e9 hP
    have hD := wr_Di e9 hD
    clear e9
    have e9 : fT (fT (fT (fT (fT (fT vF 39 (vF 39)) 40 (vF 40)) 41 (vF 41)) 42 (vF 42)) 47 (vF 47)) 48 (vF 48) = vF := ch_E vF [] [(48, 0), (47, 0), (42, 0), (41, 0), (40, 0), (39, 0)] [] [] trivial (by decide +kernel)
    have hP := wr_PF e9 hP
    have hD := wr_DF e9 hD
    clear e9
    exact W.vret hx hb hr (fun t9_ ht hW => ⟨⟨((vi 21), (vi 22), (vF 39), (vF 40), (vF 41), (vF 42), (vF 47), (vF 48), dB, wi), rfl, by (try dsimp only); exact ⟨hst0, Or.inl (by omega), fun _ _ => ⟨rfl, rfl, rfl, rfl, rfl⟩, by omega⟩, by rw [ht]; exact hP, hD⟩, hS.F ht⟩) hS.2.2 dX12_begin1_7
theorem dX12_closeSum_0 : decode cX12_closeSum 0 = .ok (.aload_n 0, 1) := dk_42 (by decide +kernel)
theorem dX12_closeSum_1 : decode cX12_closeSum 1 = .ok (.bipush 125, 2) := dk_16 (by decide +kernel)
theorem dX12_closeSum_3 : decode cX12_closeSum 3 = .ok (.invokevirtual 611, 3) := dk_182 (by decide +kernel)
theorem dX12_closeSum_6 : decode cX12_closeSum 6 = .ok (.ifCond .ne 4, 3) := dk_154 (by decide +kernel)
theorem dX12_closeSum_9 : decode cX12_closeSum 9 = .ok (.return_, 1) := dk_177 (by decide +kernel)
theorem dX12_closeSum_10 : decode cX12_closeSum 10 = .ok (.aload_n 0, 1) := dk_42 (by decide +kernel)
theorem dX12_closeSum_11 : decode cX12_closeSum 11 = .ok (.getfield 143, 3) := dk_180 (by decide +kernel)
theorem dX12_closeSum_14 : decode cX12_closeSum 14 = .ok (.iload_n 1, 1) := dk_27 (by decide +kernel)
theorem dX12_closeSum_15 : decode cX12_closeSum 15 = .ok (.bipush 6, 2) := dk_16 (by decide +kernel)
theorem dX12_closeSum_17 : decode cX12_closeSum 17 = .ok (.iastore, 1) := dk_79 (by decide +kernel)
theorem dX12_closeSum_18 : decode cX12_closeSum 18 = .ok (.aload_n 0, 1) := dk_42 (by decide +kernel)
theorem dX12_closeSum_19 : decode cX12_closeSum 19 = .ok (.iconst 1, 1) := dk_4 (by decide +kernel)
theorem dX12_closeSum_20 : decode cX12_closeSum 20 = .ok (.invokevirtual 586, 3) := dk_182 (by decide +kernel)
theorem dX12_closeSum_23 : decode cX12_closeSum 23 = .ok (.return_, 1) := dk_177 (by decide +kernel)
def wsRX12_closeSum : List Cond := .code yX12_closeSum cX12_closeSum 2 none :: ([.fieldLink RX12 143 "OptimaWorksModel" "step" "[I"] ++ wsX120 ++ (wsV RX12 611 RX12 yX12_needSign wsRX12_needSign) ++ (wsV RX12 586 RX12 yX12_begin1 wsRX12_begin1))
theorem iwsRX12_closeSum_in12 : ∀ w ∈ wsX120, w ∈ wsRX12_closeSum := fun _ h => List.mem_cons_of_mem _ (List.mem_append_left _ (List.mem_append_left _ (List.mem_append_right _ h)))
theorem gwsRX12_closeSum_0 : GoodIn wsRX12_closeSum (wsV RX12 611 RX12 yX12_needSign wsRX12_needSign) := goodIn_sub (fun _ h => List.mem_cons_of_mem _ (List.mem_append_left _ (List.mem_append_right _ h))) (gdV (by decide +kernel) gdwsRX12_needSign)
theorem gwsRX12_closeSum_1 : GoodIn wsRX12_closeSum (wsV RX12 586 RX12 yX12_begin1 wsRX12_begin1) := goodIn_sub (fun _ h => List.mem_cons_of_mem _ (List.mem_append_right _ h)) (gdV (by decide +kernel) gdwsRX12_begin1)
theorem gdwsRX12_closeSum : wsRX12_closeSum.all goodWord = true := gdC rfl (gdA (gdA (gdA (by decide +kernel : ([.fieldLink RX12 143 "OptimaWorksModel" "step" "[I"] : List Cond).all goodWord = true) gdwsX120) (gdV (by decide +kernel) gdwsRX12_needSign)) (gdV (by decide +kernel) gdwsRX12_begin1))
set_option maxHeartbeats 4000000 in
set_option maxRecDepth 100000 in
/-- closeSum(d) -/
theorem r_X12_closeSum (l : Launch) (dC : Nat → ClassId) (dI : Nat → Nat → Nat) (a : Nat → Nat) (k : Nat → ClassId) (h0 : Nat) (vi : Nat → Int32) (vj : Nat → Int64) (vF : Nat → Nat → Int32) (vG : Nat → Nat → Int64) (dN : Nat) (tp : Nat) (an : Nat) (fn : Nat) (nm : Nat) (se : Nat) (pa : Nat) (va : Nat) (bd : Nat) (wi : Nat) (hdN : dN < 119) (hTp : vi 16 = nI tp) (htp : tp ≤ 4000) (ha0 : vi 17 = nI an) (hfr : vi 19 = nI fn) (hLx : LxO tp fn an (vi 18) (vi 20)) (hst0 : 0 ≤ (vi 21).toInt) (hnm : vi 25 = nI nm) (hnm40 : nm ≤ 40) (hno : NmO (vF 11) (vF 12) nm) (hNk : NkO (vF 10) (vF 13) nm se pa va) (hbd : vi 30 = nI bd) (hbd60 : bd ≤ 60) (hbo : NmO (vF 14) (vF 15) 60) (hdp : vi 74 = nI (dN + 1)) (hwi : vi 75 = nI wi) (hwi9 : wi ≤ 25) (sz : Nat) : Met l yX12_closeSum wsRX12_closeSum ({ frames := 9, cells := 0, slots := 0, locals := 194 }) (va_Pc [.ref h0, .int (nI dN)] (fun U => U.heap.size = sz ∧ va_P (dC, dI) vwCl (WR a k h0 vi vj vF vG) U.heap ∧ va_K (dC, dI) vwCl (tX12 k) U ∧ va_D (fun _ => True) (WR a k h0 vi vj vF vG) ∧ StrA (va_A (WR a k h0 vi vj vF vG) sz) U U.heap)) (va_Qv (fun (u : (Nat) × (Nat) × (Int32) × (Int32) × (Int32) × (Int32) × (Nat → Int32) × (Nat → Int32) × (Nat → Int32) × (Nat → Int32) × (Nat → Int32) × (Nat → Int32) × (Nat) × (Nat)) => (LxO tp (u.2.1) (u.1) (u.2.2.2.1) (u.2.2.1)) ∧ (fn ≤ (u.2.1)) ∧ (0 ≤ ((u.2.2.2.2.1)).toInt) ∧ (0 < ((u.2.2.2.2.1)).toInt ∨ ((u.2.2.2.2.1) = 0 ∧ fn < (u.2.1) ∧ BgO 1 (u.2.2.2.1) (u.2.2.1) (u.2.2.2.2.2.2.1) (u.2.2.2.2.2.2.2.1) (u.2.2.2.2.2.2.2.2.1) (u.2.2.2.2.2.2.2.2.2.1) (u.2.2.2.2.2.2.2.2.2.2.2.1) (dN + 1) wi (u.2.2.2.2.2.2.2.2.2.2.2.2.1) (u.2.2.2.2.2.2.2.2.2.2.2.2.2) ∧ FrmO (dN + 1) (vF 39) (upd (vF 40) (nI dN).toNatClampNeg 6) (vF 41) (vF 42) (vF 48) (u.2.2.2.2.2.2.1) (u.2.2.2.2.2.2.2.1) (u.2.2.2.2.2.2.2.2.1) (u.2.2.2.2.2.2.2.2.2.1) (u.2.2.2.2.2.2.2.2.2.2.2.1))) ∧ ((u.2.2.2.2.2.2.2.2.2.2.2.2.1) ≤ dN + 2)) (fun (u : (Nat) × (Nat) × (Int32) × (Int32) × (Int32) × (Int32) × (Nat → Int32) × (Nat → Int32) × (Nat → Int32) × (Nat → Int32) × (Nat → Int32) × (Nat → Int32) × (Nat) × (Nat)) t => va_P (dC, dI) vwCl (WR a k h0 (fT (fT (fT (fT (fT (fT (fT (fT vi 17 (nI (u.1))) 19 (nI (u.2.1))) 20 (u.2.2.1)) 18 (u.2.2.2.1)) 21 (u.2.2.2.2.1)) 22 (u.2.2.2.2.2.1)) 75 (nI (u.2.2.2.2.2.2.2.2.2.2.2.2.2))) 74 (nI (u.2.2.2.2.2.2.2.2.2.2.2.2.1))) vj (fT (fT (fT (fT (fT (fT vF 40 (u.2.2.2.2.2.2.2.1)) 39 (u.2.2.2.2.2.2.1)) 41 (u.2.2.2.2.2.2.2.2.1)) 42 (u.2.2.2.2.2.2.2.2.2.1)) 47 (u.2.2.2.2.2.2.2.2.2.2.1)) 48 (u.2.2.2.2.2.2.2.2.2.2.2.1)) vG) t.heap ∧ va_D (va_A (WR a k h0 vi vj vF vG) sz) (WR a k h0 (fT (fT (fT (fT (fT (fT (fT (fT vi 17 (nI (u.1))) 19 (nI (u.2.1))) 20 (u.2.2.1)) 18 (u.2.2.2.1)) 21 (u.2.2.2.2.1)) 22 (u.2.2.2.2.2.1)) 75 (nI (u.2.2.2.2.2.2.2.2.2.2.2.2.2))) 74 (nI (u.2.2.2.2.2.2.2.2.2.2.2.2.1))) vj (fT (fT (fT (fT (fT (fT vF 40 (u.2.2.2.2.2.2.2.1)) 39 (u.2.2.2.2.2.2.1)) 41 (u.2.2.2.2.2.2.2.2.1)) 42 (u.2.2.2.2.2.2.2.2.2.1)) 47 (u.2.2.2.2.2.2.2.2.2.2.1)) 48 (u.2.2.2.2.2.2.2.2.2.2.2.1)) vG)) (va_A (WR a k h0 vi vj vF vG) sz)) 0 0 (va_A (WR a k h0 vi vj vF vG) sz) := by
  refine Met.ofW (cc := cX12_closeSum) (maxL := 2) (ret := none) (by decide) rfl ?_
  intro p e s m args below meth c s₁ B hml hv
  obtain ⟨rfl, hsz, hP, hK, hD0, hE⟩ := hv
  have hx := B.exec
  have hb := B.bytes
  have hr := B.returns
  have hts := atoms_spec (ws := wsRX12_closeSum) B.pre
  have hown : s.vm.findClass RX12 = some m.cls := findClass_of_methodNamed B.named
  have hlocks := B.notSynchronized
  subst hsz
  have hD := hD0.self (sz := s.heap.size)
  generalize hAe : va_A (WR a k h0 vi vj vF vG) s.heap.size = A at hD hE ⊢
  have hA : ∀ q : Nat, s.heap.size ≤ q → A q := fun q h => by rw [← hAe]; exact Or.inr h
  have hS : va_S A s.heap s.heap [] := va_S.rf
  have hl := lv_entry ([.ref h0, .int (nI dN)]) (n := 2) (Nat.le_of_ble_eq_true rfl)
  rw [lg_entry_eq]
  generalize (lg_sl ([.ref h0, .int (nI dN)]) ++ List.replicate (2 - (lg_sl ([.ref h0, .int (nI dN)])).length) Slot.unset).toArray = ls at hl ⊢
  have hl : lv_has ls 2 [(0, .ref h0), (1, .int (nI dN))] := hl
  have hfa := hLx.1
  have han := hLx.2.1
  have han4 : an ≤ 4000 := by omega
  refine lv_aload_n hx hb dX12_closeSum_0 rfl (lv_at hl 0 rfl) ?_
  refine lv_bipush (v := 125) hx hb dX12_closeSum_1 (by decide) ?_
  have hFc := allFree hD hS hA
  refine va_calli (va_runV (As := [.int 125]) (rest := []) ⟨hx, hb, hml, hown, hts⟩ (r_X12_needSign l dC dI a k h0 vi vj vF vG 125 tp an fn hTp (by first | with_reducible assumption | decide | omega | rfl | assumption) ha0 hfr (by first | with_reducible assumption | decide | omega | rfl | assumption) (by first | with_reducible assumption | decide | omega | rfl | assumption) s.heap.size) (cwV 1 hts gwsRX12_closeSum_0 rfl rfl rfl hd_yX12_needSign_RX12 (by decide +kernel)) (fz_preE (va_recv hK hP (ci := 12) (q0 := 0) rfl rfl) hP hK hD (fun a U g mk qE => qE.same rfl) (fun U hU9 hW => by rw [hU9]; exact (((hE : StrA A s s.heap).kept hS.2.1).narrow (fun q h => hFc q h)).warm hW)) rfl rfl hl.1 rfl (lv_room (Nat.le_of_ble_eq_true rfl)) dX12_closeSum_3 (by decide +kernel)) hS (fun q _ h => hFc q h) hFc (fun r3 u t9_ H locs ht hvm hw9 hB9 hz1 hk1 hS => ?_)
  revert u hw9 hB9
  refine fz_p6 ?_
  intro a23 f23 sg3 wd3 s23 p23 hw9 hB9
  try dsimp only at hw9 hB9
  have hP : va_P (dC, dI) vwCl (WR a k h0 (fT (fT (fT (fT (fT (fT vi 17 (nI a23)) 19 (nI f23)) 20 sg3) 18 wd3) 21 s23) 22 p23) vj vF vG) H := fz_P ht hB9.1
  have hD := fz_sd hP (hB9.2.weaken (fun _ q _ h => hFc q.1 h)) rfl
  rcases hw9 with ⟨rfl, f3_0, f3_1, f3_2, f3_3⟩ | ⟨rfl, f3_0, f3_1, f3_2⟩
  · have f3_3 : (vi 21) = 0 := f3_3
    refine lv_if_ne (tgt := 10) hx hb dX12_closeSum_6 (by decide) (fun _ => ?_) (fun c9 => absurd c9 (by decide))
    refine lv_aload_n hx hb dX12_closeSum_10 rfl (lv_at hl 0 rfl) ?_
    refine va_get (D := (dC, dI)) (ci := 12) (v := .ref (a 40)) (C := RX12) (T := TX12) (N := 163) (fs := fM (vS a (fT (fT (fT (fT (fT (fT vi 17 (nI a23)) 19 (nI f23)) 20 sg3) 18 wd3) 21 s23) 22 p23) vj)) hx hb hts iwsRX12_closeSum_in12 hown hK hP 0 rfl rfl 65 (by decide) (hts (.fieldLink RX12 143 "OptimaWorksModel" "step" "[I") (by decide +kernel)) (fun _ h9 => h9) rfl dX12_closeSum_11 ?_
    refine lv_iload_n hx hb dX12_closeSum_14 rfl (lv_at hl 1 rfl) ?_
    refine lv_bipush (v := 6) hx hb dX12_closeSum_15 (by decide) ?_
    refine va_iast (cA := k 40) (n := 120) (f := (vF 40)) hx hb hK hP hD hS 41 40 (WR_get 40 (by decide)) (TR_get 40 (by decide)) (vp_in_nI (show dN < 120 by omega) (by omega)) dX12_closeSum_17 (fun H locs hP hD hS => ?_)
    have hP : va_P (dC, dI) vwCl (WR a k h0 (fT (fT (fT (fT (fT (fT vi 17 (nI a23)) 19 (nI f23)) 20 sg3) 18 wd3) 21 s23) 22 p23) vj (fT vF 40 (upd (vF 40) ((nI dN)).toNatClampNeg 6)) vG) H := fz_w (WR_F 40 (by decide) _ rfl) hP
    have hD : va_D A (WR a k h0 (fT (fT (fT (fT (fT (fT vi 17 (nI a23)) 19 (nI f23)) 20 sg3) 18 wd3) 21 s23) 22 p23) vj (fT vF 40 (upd (vF 40) ((nI dN)).toNatClampNeg 6)) vG) := fz_wD (WR_F 40 (by decide) _ rfl) hD
    refine lv_aload_n hx hb dX12_closeSum_18 rfl (lv_at hl 0 rfl) ?_
    refine lv_iconst (v := 1) hx hb dX12_closeSum_19 (by decide) ?_
    have hFc := allFree hD hS hA
    refine va_callv (va_runV (As := [.int 1]) (rest := []) ⟨hx, hb, hml, hown, hts⟩ (r_X12_begin1 l dC dI a k h0 (fT (fT (fT (fT (fT (fT vi 17 (nI a23)) 19 (nI f23)) 20 sg3) 18 wd3) 21 s23) 22 p23) vj (fT vF 40 (upd (vF 40) ((nI dN)).toNatClampNeg 6)) vG 1 tp a23 f23 nm se pa va bd (dN + 1) wi hTp (by first | with_reducible assumption | decide | omega | rfl | assumption) rfl rfl (f3_1) ((show 0 ≤ (s23).toInt by rw [f3_0]; decide)) hnm (by first | with_reducible assumption | decide | omega | rfl | assumption) (by first | with_reducible assumption | decide | omega | rfl | assumption) (by first | with_reducible assumption | decide | omega | rfl | assumption) hbd (by first | with_reducible assumption | decide | omega | rfl | assumption) (by first | with_reducible assumption | decide | omega | rfl | assumption) (hdp) (by first | with_reducible assumption | decide | omega | rfl | assumption) hwi (by first | with_reducible assumption | decide | omega | rfl | assumption) H.size) (cwV 1 hts gwsRX12_closeSum_1 rfl rfl rfl hd_yX12_begin1_RX12 (by decide +kernel)) (fz_pre (va_recv hK hP (ci := 12) (q0 := 0) rfl rfl) hP hK hD) rfl rfl hl.1 rfl (lv_room (Nat.le_of_ble_eq_true rfl)) dX12_closeSum_20 (by decide +kernel)) hS (fun q _ h => hFc q h) hFc (fun u t9_ H locs ht hvm hw9 hB9 hz1 hk1 hS => ?_)
    revert u hw9 hB9
    refine fz_p10 ?_
    intro s220 p220 g3920 g4020 g4120 g4220 g4720 g4820 d220 w220 hw9 hB9
    try dsimp only at hw9 hB9
    have e9i : fT (fT (fT (fT (fT (fT (fT (fT vi 17 (nI a23)) 19 (nI f23)) 20 sg3) 18 wd3) 21 s220) 22 p220) 75 (nI w220)) 74 (nI d220) = fT (fT (fT (fT (fT (fT (fT (fT (fT (fT vi 17 (nI a23)) 19 (nI f23)) 20 sg3) 18 wd3) 21 s23) 22 p23) 75 (nI w220)) 74 (nI d220)) 21 s220) 22 p220 := ch_E vi [nI a23, nI f23, sg3, wd3, s220, p220, nI w220, nI d220, s23, p23] [(74, 8), (75, 7), (22, 6), (21, 5), (18, 4), (20, 3), (19, 2), (17, 1)] [(22, 6), (21, 5), (74, 8), (75, 7), (22, 10), (21, 9), (18, 4), (20, 3), (19, 2), (17, 1)] [] trivial (by decide +kernel)
    have e9F : fT (fT (fT (fT (fT (fT vF 40 g4020) 39 g3920) 41 g4120) 42 g4220) 47 g4720) 48 g4820 = fT (fT (fT (fT (fT (fT (fT vF 40 (upd (vF 40) ((nI dN)).toNatClampNeg 6)) 39 g3920) 40 g4020) 41 g4120) 42 g4220) 47 g4720) 48 g4820 := (congrArg (fun g9 => fT (fT (fT (fT g9 41 g4120) 42 g4220) 47 g4720) 48 g4820) ((fT_sw _ _ _ (Nat.ne_of_beq_eq_false rfl)).trans (congrArg (fun g9 => fT g9 39 g3920) (fT_sm _ _ _ _)))).symm
    have hP := wr_PF e9F (wr_Pi e9i (fz_P ht hB9.1))
    have hD := wr_DF e9F (wr_Di e9i (hB9.2.weaken (fun _ q _ h => hFc q.1 h)))
    clear e9i e9F
    revert hw9
    refine fz_a4 ?_
    intro f20_0 f20_1 f20_2 f20_3
    have f20_1 : 0 < (s220).toInt ∨ (s220 = s23 ∧ BgO 1 wd3 sg3 g3920 g4020 g4120 g4220 g4820 (dN + 1) wi d220 w220) := f20_1
    have f20_2 : FrmO (dN + 1) (vF 39) (upd (vF 40) ((nI dN)).toNatClampNeg 6) (vF 41) (vF 42) (vF 48) g3920 g4020 g4120 g4220 g4820 := f20_2
    refine W.widen (k := 0) (n := 0) (by decide +kernel) (by decide +kernel) ?_
    exact W.vret hx hb hr (fun t9_ ht hW => ⟨⟨(a23, f23, sg3, wd3, s220, p220, g3920, g4020, g4120, g4220, g4720, g4820, d220, w220), rfl, by (try dsimp only); exact ⟨f3_1, by omega, f20_0, by rcases f20_1 with h9 | h9; (exact Or.inl h9); (exact Or.inr ⟨h9.1.trans f3_0, by omega, h9.2, f20_2⟩), by omega⟩, by rw [ht]; exact hP, hD⟩, hS.F ht⟩) hS.2.2 dX12_closeSum_23
  · refine lv_if_ne (tgt := 10) hx hb dX12_closeSum_6 (by decide) (fun c9 => absurd c9 (by decide)) (fun _ => ?_)
    refine W.widen (k := 0) (n := 0) (by decide +kernel) (by decide +kernel) ?_
    have e9 : fT (fT (fT (fT (fT (fT (fT (fT vi 17 (nI a23)) 19 (nI f23)) 20 sg3) 18 wd3) 21 s23) 22 p23) 75 (nI wi)) 74 (nI (dN + 1)) = fT (fT (fT (fT (fT (fT vi 17 (nI a23)) 19 (nI f23)) 20 sg3) 18 wd3) 21 s23) 22 p23 := ch_E vi [nI a23, nI f23, sg3, wd3, s23, p23, nI wi, nI (dN + 1)] [(74, 8), (75, 7), (22, 6), (21, 5), (18, 4), (20, 3), (19, 2), (17, 1)] [(22, 6), (21, 5), (18, 4), (20, 3), (19, 2), (17, 1)] [75, 74] ⟨show nI wi = vi 75 from (by first | with_reducible rfl | with_reducible assumption | (symm; with_reducible assumption) | rfl | assumption | (symm; assumption) | (subst_vars; rfl)), show nI (dN + 1) = vi 74 from (by first | with_reducible rfl | with_reducible assumption | (symm; with_reducible assumption) | rfl | assumption | (symm; assumption) | (subst_vars; rfl)), trivial⟩ (by decide +kernel)
    have hP := wr_Pi e9 hP
    have hD := wr_Di e9 hD
    clear e9
    have e9 : fT (fT (fT (fT (fT (fT vF 40 (vF 40)) 39 (vF 39)) 41 (vF 41)) 42 (vF 42)) 47 (vF 47)) 48 (vF 48) = vF := ch_E vF [] [(48, 0), (47, 0), (42, 0), (41, 0), (39, 0), (40, 0)] [] [] trivial (by decide +kernel)
    have hP := wr_PF e9 hP
    have hD := wr_DF e9 hD
    clear e9
    exact W.vret hx hb hr (fun t9_ ht hW => ⟨⟨(a23, f23, sg3, wd3, s23, p23, (vF 39), (vF 40), (vF 41), (vF 42), (vF 47), (vF 48), (dN + 1), wi), rfl, by (try dsimp only); exact ⟨f3_1, by omega, by omega, Or.inl f3_0, by omega⟩, by rw [ht]; exact hP, hD⟩, hS.F ht⟩) hS.2.2 dX12_closeSum_9
end
section
/-- the nodes' part of the reader's state, against an earlier one -/
def RdK (T : Nat → Nat → Int32) (G : RG) (f29 f30 f31 f32 f36 f37 f38 : Nat → Int32) (G' : RG) (g29 g30 g31 g32 g36 g37 g38 : Nat → Int32) (se nd bs gl : Nat) : Prop := RdV T G' g29 g30 g31 g32 g36 g37 g38 se nd bs ∧ Ext gl bs G f29 f30 f31 f32 f36 f37 f38 G' g29 g30 g31 g32 g36 g37 g38 ∧ (∀ q, G.V q → q < nd) ∧ gl ≤ nd
theorem RdK.first {T : Nat → Nat → Int32} {G : RG} {f29 f30 f31 f32 f36 f37 f38 : Nat → Int32} {se nd bs gl : Nat} (h : RdV T G f29 f30 f31 f32 f36 f37 f38 se nd bs) (hg : gl ≤ nd) : RdK T G f29 f30 f31 f32 f36 f37 f38 G f29 f30 f31 f32 f36 f37 f38 se nd bs gl := ⟨h, Ext.refl (), fun q hq => (h.2.1 q hq).1, hg⟩
theorem LinO.node {G : RG} {g29 : Nat → Int32} {nd c P : Nat} {kv : Int32} (h : LinO G g29 c P) (hc : c < nd) (h4 : nd < 4000) : LinO G (upd g29 (nI nd).toNatClampNeg kv) c P := ⟨h.1, by rw [upd_at (by omega), if_neg (by omega)]; exact h.2.1, h.2.2⟩
theorem TruO.node {G : RG} {g29 : Nat → Int32} {nd c P : Nat} {kv : Int32} (h : TruO G g29 c P) (hc : c < nd) (h4 : nd < 4000) : TruO G (upd g29 (nI nd).toNatClampNeg kv) c P := ⟨h.1, by rw [upd_at (by omega), if_neg (by omega)]; exact h.2.1, h.2.2⟩
theorem RdK.node {T : Nat → Nat → Int32} {G G' : RG} {f29 f30 f31 f32 f36 f37 f38 g29 g30 g31 g32 g36 g37 g38 : Nat → Int32} {se nd bs gl : Nat} {kv av bv cv : Int32} (h : RdK T G f29 f30 f31 f32 f36 f37 f38 G' g29 g30 g31 g32 g36 g37 g38 se nd bs gl) (h4 : nd < 4000) : RdK T G f29 f30 f31 f32 f36 f37 f38 G' (upd g29 (nI nd).toNatClampNeg kv) (upd g30 (nI nd).toNatClampNeg av) (upd g31 (nI nd).toNatClampNeg bv) (upd g32 (nI nd).toNatClampNeg cv) g36 g37 g38 se (nd + 1) bs gl :=
  ⟨h.1.node (by omega), h.2.1.node h.2.2.2 (by omega) h.2.2.1, fun q hq => Nat.lt_succ_of_lt (h.2.2.1 q hq), Nat.le_succ_of_le h.2.2.2⟩
theorem RdK.nv {T : Nat → Nat → Int32} {G G' : RG} {f29 f30 f31 f32 f36 f37 f38 g29 g30 g31 g32 g36 g37 g38 : Nat → Int32} {se nd bs gl : Nat} (h : RdK T G f29 f30 f31 f32 f36 f37 f38 G' g29 g30 g31 g32 g36 g37 g38 se nd bs gl) : ¬ G'.V nd := fun q => absurd (h.1.2.1 nd q).1 (Nat.lt_irrefl _)
theorem RdK.nv0 {T : Nat → Nat → Int32} {G G' : RG} {f29 f30 f31 f32 f36 f37 f38 g29 g30 g31 g32 g36 g37 g38 : Nat → Int32} {se nd bs gl : Nat} (h : RdK T G f29 f30 f31 f32 f36 f37 f38 G' g29 g30 g31 g32 g36 g37 g38 se nd bs gl) : ¬ G.V nd := fun q => absurd (h.2.2.1 nd q) (Nat.lt_irrefl _)
theorem u_at {f : Nat → Int32} {n : Nat} {v w : Int32} (h4 : n < 4000) (e : v = w) : (upd f (nI n).toNatClampNeg v) n = w := by rw [upd_at (by omega), if_pos rfl]; exact e
theorem RdK.mkNum {T : Nat → Nat → Int32} {G G' : RG} {f29 f30 f31 f32 f36 f37 f38 g29 g30 g31 g32 g36 g37 g38 : Nat → Int32} {se nd bs gl : Nat} {kv av bv cv : Int32} {p : Nat} (h : RdK T G f29 f30 f31 f32 f36 f37 f38 G' g29 g30 g31 g32 g36 g37 g38 se nd bs gl) (h4 : nd < 4000) (hk : kv = nI 0) (hp : 1 ≤ p) (ha : -1000200 ≤ av.toInt ∧ av.toInt ≤ 1000200) : RdK T G f29 f30 f31 f32 f36 f37 f38 (G'.add nd 0 p 0) (upd g29 (nI nd).toNatClampNeg kv) (upd g30 (nI nd).toNatClampNeg av) (upd g31 (nI nd).toNatClampNeg bv) (upd g32 (nI nd).toNatClampNeg cv) g36 g37 g38 se (nd + 1) bs gl ∧ LinO (G'.add nd 0 p 0) (upd g29 (nI nd).toNatClampNeg kv) nd p := by
  have h1 := h.node (kv := kv) (av := av) (bv := bv) (cv := cv) h4
  have hv := h.nv
  have hk9 : (upd g29 (nI nd).toNatClampNeg kv) nd = kv := u_at h4 rfl
  exact ⟨⟨h1.1.num hv (Nat.lt_succ_self _) h4 (hk9.trans hk) hp (by rw [u_at h4 rfl]; exact ha), h1.2.1.add h.2.2.2 h.nv0, h1.2.2.1, h1.2.2.2⟩, LinO.new (hk9.trans hk) (by omega)⟩
theorem RdK.mkBnd {T : Nat → Nat → Int32} {G G' : RG} {f29 f30 f31 f32 f36 f37 f38 g29 g30 g31 g32 g36 g37 g38 : Nat → Int32} {se nd bs gl : Nat} {kv av bv cv : Int32} {p : Nat} (h : RdK T G f29 f30 f31 f32 f36 f37 f38 G' g29 g30 g31 g32 g36 g37 g38 se nd bs gl) (h4 : nd < 4000) {x : Nat} (hk : kv = nI 1) (hp : 1 ≤ p) (hx : x < 60) (ha : av = nI x) : RdK T G f29 f30 f31 f32 f36 f37 f38 (G'.add nd 0 p 0) (upd g29 (nI nd).toNatClampNeg kv) (upd g30 (nI nd).toNatClampNeg av) (upd g31 (nI nd).toNatClampNeg bv) (upd g32 (nI nd).toNatClampNeg cv) g36 g37 g38 se (nd + 1) bs gl ∧ LinO (G'.add nd 0 p 0) (upd g29 (nI nd).toNatClampNeg kv) nd p := by
  have h1 := h.node (kv := kv) (av := av) (bv := bv) (cv := cv) h4
  have hv := h.nv
  have hk9 : (upd g29 (nI nd).toNatClampNeg kv) nd = kv := u_at h4 rfl
  exact ⟨⟨h1.1.bnd hv (Nat.lt_succ_self _) h4 (hk9.trans hk) hp hx (u_at h4 ha), h1.2.1.add h.2.2.2 h.nv0, h1.2.2.1, h1.2.2.2⟩, LinO.new (hk9.trans hk) (by omega)⟩
theorem RdK.mkTurn {T : Nat → Nat → Int32} {G G' : RG} {f29 f30 f31 f32 f36 f37 f38 g29 g30 g31 g32 g36 g37 g38 : Nat → Int32} {se nd bs gl : Nat} {kv av bv cv : Int32} {p : Nat} (h : RdK T G f29 f30 f31 f32 f36 f37 f38 G' g29 g30 g31 g32 g36 g37 g38 se nd bs gl) (h4 : nd < 4000) {c P : Nat} (hk : kv = nI 4) (hp : 1 ≤ p) (ha : av = nI c) (hc : LinO G' g29 c P) (hP : P ≤ p) : RdK T G f29 f30 f31 f32 f36 f37 f38 (G'.add nd (G'.wt c + 3) p 0) (upd g29 (nI nd).toNatClampNeg kv) (upd g30 (nI nd).toNatClampNeg av) (upd g31 (nI nd).toNatClampNeg bv) (upd g32 (nI nd).toNatClampNeg cv) g36 g37 g38 se (nd + 1) bs gl ∧ LinO (G'.add nd (G'.wt c + 3) p 0) (upd g29 (nI nd).toNatClampNeg kv) nd p := by
  have h1 := h.node (kv := kv) (av := av) (bv := bv) (cv := cv) h4
  have hv := h.nv
  have hk9 : (upd g29 (nI nd).toNatClampNeg kv) nd = kv := u_at h4 rfl
  exact ⟨⟨h1.1.turn hv (Nat.lt_succ_self _) h4 (hk9.trans hk) hp (u_at h4 ha) (hc.node (h.1.2.1 c hc.1).1 h4) hP, h1.2.1.add h.2.2.2 h.nv0, h1.2.2.1, h1.2.2.2⟩, LinO.new (hk9.trans hk) (by omega)⟩
theorem RdK.mkPair {T : Nat → Nat → Int32} {G G' : RG} {f29 f30 f31 f32 f36 f37 f38 g29 g30 g31 g32 g36 g37 g38 : Nat → Int32} {se nd bs gl : Nat} {kv av bv cv : Int32} {p : Nat} (h : RdK T G f29 f30 f31 f32 f36 f37 f38 G' g29 g30 g31 g32 g36 g37 g38 se nd bs gl) (h4 : nd < 4000) {k c d P Q : Nat} (hk : kv = nI k) (hkk : 5 ≤ k ∧ k ≤ 8) (ha : av = nI c) (hb : bv = nI d) (hc : LinO G' g29 c P) (hd : LinO G' g29 d Q) (hp : 2 ≤ p) (hP : P ≤ p) (hQ : Q + 1 ≤ p) : RdK T G f29 f30 f31 f32 f36 f37 f38 (G'.add nd (G'.wt c + G'.wt d + 3) p 0) (upd g29 (nI nd).toNatClampNeg kv) (upd g30 (nI nd).toNatClampNeg av) (upd g31 (nI nd).toNatClampNeg bv) (upd g32 (nI nd).toNatClampNeg cv) g36 g37 g38 se (nd + 1) bs gl ∧ LinO (G'.add nd (G'.wt c + G'.wt d + 3) p 0) (upd g29 (nI nd).toNatClampNeg kv) nd p := by
  have h1 := h.node (kv := kv) (av := av) (bv := bv) (cv := cv) h4
  have hv := h.nv
  have hk9 : (upd g29 (nI nd).toNatClampNeg kv) nd = kv := u_at h4 rfl
  exact ⟨⟨h1.1.pair hv (Nat.lt_succ_self _) h4 (hk9.trans hk) (Or.inl hkk) (u_at h4 ha) (u_at h4 hb) (hc.node (h.1.2.1 c hc.1).1 h4) (hd.node (h.1.2.1 d hd.1).1 h4) hp hP hQ, h1.2.1.add h.2.2.2 h.nv0, h1.2.2.1, h1.2.2.2⟩, LinO.new (hk9.trans hk) (by omega)⟩
theorem RdK.mkComp {T : Nat → Nat → Int32} {G G' : RG} {f29 f30 f31 f32 f36 f37 f38 g29 g30 g31 g32 g36 g37 g38 : Nat → Int32} {se nd bs gl : Nat} {kv av bv cv : Int32} {p : Nat} (h : RdK T G f29 f30 f31 f32 f36 f37 f38 G' g29 g30 g31 g32 g36 g37 g38 se nd bs gl) (h4 : nd < 4000) {c d P Q : Nat} (hk : kv = nI 13) (ha : av = nI c) (hb : bv = nI d) (hc : LinO G' g29 c P) (hd : LinO G' g29 d Q) (hp : 2 ≤ p) (hP : P ≤ p) (hQ : Q + 1 ≤ p) : RdK T G f29 f30 f31 f32 f36 f37 f38 (G'.add nd (G'.wt c + G'.wt d + 3) p 0) (upd g29 (nI nd).toNatClampNeg kv) (upd g30 (nI nd).toNatClampNeg av) (upd g31 (nI nd).toNatClampNeg bv) (upd g32 (nI nd).toNatClampNeg cv) g36 g37 g38 se (nd + 1) bs gl ∧ TruO (G'.add nd (G'.wt c + G'.wt d + 3) p 0) (upd g29 (nI nd).toNatClampNeg kv) nd p := by
  have h1 := h.node (kv := kv) (av := av) (bv := bv) (cv := cv) h4
  have hv := h.nv
  have hk9 : (upd g29 (nI nd).toNatClampNeg kv) nd = kv := u_at h4 rfl
  exact ⟨⟨h1.1.pair hv (Nat.lt_succ_self _) h4 (hk9.trans hk) (Or.inr rfl) (u_at h4 ha) (u_at h4 hb) (hc.node (h.1.2.1 c hc.1).1 h4) (hd.node (h.1.2.1 d hd.1).1 h4) hp hP hQ, h1.2.1.add h.2.2.2 h.nv0, h1.2.2.1, h1.2.2.2⟩, TruO.new (hk9.trans hk) (by omega) (by omega)⟩
theorem RdK.mkJoin {T : Nat → Nat → Int32} {G G' : RG} {f29 f30 f31 f32 f36 f37 f38 g29 g30 g31 g32 g36 g37 g38 : Nat → Int32} {se nd bs gl : Nat} {kv av bv cv : Int32} {p : Nat} (h : RdK T G f29 f30 f31 f32 f36 f37 f38 G' g29 g30 g31 g32 g36 g37 g38 se nd bs gl) (h4 : nd < 4000) {k c d P Q : Nat} (hk : kv = nI k) (hkk : k = 10 ∨ k = 11) (ha : av = nI c) (hb : bv = nI d) (hc : TruO G' g29 c P) (hd : TruO G' g29 d Q) (hP : P ≤ p) (hQ : Q ≤ p) : RdK T G f29 f30 f31 f32 f36 f37 f38 (G'.add nd (G'.wt c + G'.wt d + 3) p 0) (upd g29 (nI nd).toNatClampNeg kv) (upd g30 (nI nd).toNatClampNeg av) (upd g31 (nI nd).toNatClampNeg bv) (upd g32 (nI nd).toNatClampNeg cv) g36 g37 g38 se (nd + 1) bs gl ∧ TruO (G'.add nd (G'.wt c + G'.wt d + 3) p 0) (upd g29 (nI nd).toNatClampNeg kv) nd p := by
  have h1 := h.node (kv := kv) (av := av) (bv := bv) (cv := cv) h4
  have hv := h.nv
  have hk9 : (upd g29 (nI nd).toNatClampNeg kv) nd = kv := u_at h4 rfl
  exact ⟨⟨h1.1.join hv (Nat.lt_succ_self _) h4 (hk9.trans hk) hkk (u_at h4 ha) (u_at h4 hb) (hc.node (h.1.2.1 c hc.1).1 h4) (hd.node (h.1.2.1 d hd.1).1 h4) hP hQ, h1.2.1.add h.2.2.2 h.nv0, h1.2.2.1, h1.2.2.2⟩, TruO.new (hk9.trans hk) (by omega) (by omega)⟩
theorem RdK.mkNot {T : Nat → Nat → Int32} {G G' : RG} {f29 f30 f31 f32 f36 f37 f38 g29 g30 g31 g32 g36 g37 g38 : Nat → Int32} {se nd bs gl : Nat} {kv av bv cv : Int32} {p : Nat} (h : RdK T G f29 f30 f31 f32 f36 f37 f38 G' g29 g30 g31 g32 g36 g37 g38 se nd bs gl) (h4 : nd < 4000) {c P : Nat} (hk : kv = nI 12) (ha : av = nI c) (hc : TruO G' g29 c P) (hP : P ≤ p) : RdK T G f29 f30 f31 f32 f36 f37 f38 (G'.add nd (G'.wt c + 3) p 0) (upd g29 (nI nd).toNatClampNeg kv) (upd g30 (nI nd).toNatClampNeg av) (upd g31 (nI nd).toNatClampNeg bv) (upd g32 (nI nd).toNatClampNeg cv) g36 g37 g38 se (nd + 1) bs gl ∧ TruO (G'.add nd (G'.wt c + 3) p 0) (upd g29 (nI nd).toNatClampNeg kv) nd p := by
  have h1 := h.node (kv := kv) (av := av) (bv := bv) (cv := cv) h4
  have hv := h.nv
  have hk9 : (upd g29 (nI nd).toNatClampNeg kv) nd = kv := u_at h4 rfl
  exact ⟨⟨h1.1.not hv (Nat.lt_succ_self _) h4 (hk9.trans hk) (u_at h4 ha) (hc.node (h.1.2.1 c hc.1).1 h4) hP, h1.2.1.add h.2.2.2 h.nv0, h1.2.2.1, h1.2.2.2⟩, TruO.new (hk9.trans hk) (by omega) (by omega)⟩
theorem RdK.mkName {T : Nat → Nat → Int32} {G G' : RG} {f29 f30 f31 f32 f36 f37 f38 g29 g30 g31 g32 g36 g37 g38 : Nat → Int32} {se nd bs gl : Nat} {kv av bv cv : Int32} {p : Nat} (h : RdK T G f29 f30 f31 f32 f36 f37 f38 G' g29 g30 g31 g32 g36 g37 g38 se nd bs gl) (h4 : nd < 4000) {k a pl o1 o2 aT : Nat} (hkk : k = 2 ∨ k = 3) (hk : kv = nI k) (ha : av = nI a ∧ a < 44) (hS : NamS T se k a pl o1 o2 aT) (hp : 1 ≤ p) (h0 : pl = 0) (hb : bv = -1) (hc : cv = -1) : RdK T G f29 f30 f31 f32 f36 f37 f38 (G'.add nd 0 p 0) (upd g29 (nI nd).toNatClampNeg kv) (upd g30 (nI nd).toNatClampNeg av) (upd g31 (nI nd).toNatClampNeg bv) (upd g32 (nI nd).toNatClampNeg cv) g36 g37 g38 se (nd + 1) bs gl ∧ LinO (G'.add nd 0 p 0) (upd g29 (nI nd).toNatClampNeg kv) nd p := by
  have h1 := h.node (kv := kv) (av := av) (bv := bv) (cv := cv) h4
  have hv := h.nv
  have hk9 : (upd g29 (nI nd).toNatClampNeg kv) nd = kv := u_at h4 rfl
  exact ⟨⟨h1.1.name0 hv (Nat.lt_succ_self _) h4 hkk (hk9.trans hk) ⟨u_at h4 ha.1, ha.2⟩ hS hp h0 (u_at h4 hb) (u_at h4 hc), h1.2.1.add h.2.2.2 h.nv0, h1.2.2.1, h1.2.2.2⟩, LinO.new (hk9.trans hk) (by omega)⟩
/-- what the uppermost frame knows, kind by kind -/
theorem RTp.linear {T : Nat → Nat → Int32} {G : RG} {f29 f30 f31 f32 f36 f37 f38 f40 f41 f42 : Nat → Int32} {wd sg res : Int32} {se bs i w u ex gl gm p1 n1 m1 tw : Nat} (h : RTp T G f29 f30 f31 f32 f36 f37 f38 f40 f41 f42 wd sg res se bs i 0 w u ex gl gm p1 n1 m1 tw) :
    (f40 i = 0 ∧ f41 i = -1 ∧ f42 i = -1 ∧ p1 = 0 ∧ n1 = 0 ∧ m1 = 0 ∧ gm = gl ∧ ex = 1 ∧ tw = 3) ∨ (f40 i = 1 ∧ n1 = 0 ∧ m1 = 0 ∧ gl ≤ gm ∧ ex = 1 ∧ tw = 1 ∧ ∃ a b c, OpL G f29 (f41 i) (51 - 2 * w) a ∧ OpL G f29 (f42 i) (50 - 2 * w) b ∧ p1 = a + b ∧ res = nI c ∧ w ≤ 24 ∧ LinO G f29 c (49 - 2 * w)) := by
  rcases h with ⟨h1, h2, h3, ⟨a1, a2, a3, a4⟩, ⟨_, a5⟩, _, h4⟩ | ⟨h1, ck, ⟨⟨_, b1, _, b2⟩, h2⟩, c, h3, h4⟩
  · exact Or.inl ⟨h1, h2, h3, a1, a2, a3, a4, a5 (by decide), by omega⟩
  · rcases h2 with ⟨_, d1, d2, d3, d4, a, b, d5, d6, d7⟩ | h | h | h | h | h | h | h | h | h | h | h
    · rcases h4 with ⟨e1, e2, e3⟩ | h4 | h4
      · exact Or.inr ⟨d2, d3, d4, b2, b1 (by decide), h1, a, b, c, d5, d6, d7, h3, e2, e3⟩
      · exact absurd h4.1 (by omega)
      · exact absurd h4.1 (by omega)
    all_goals exact absurd h.1 (by decide)
theorem RTp.truth {T : Nat → Nat → Int32} {G : RG} {f29 f30 f31 f32 f36 f37 f38 f40 f41 f42 : Nat → Int32} {wd sg res : Int32} {se bs i w u ex gl gm p1 n1 m1 tw : Nat} (h : RTp T G f29 f30 f31 f32 f36 f37 f38 f40 f41 f42 wd sg res se bs i 2 w u ex gl gm p1 n1 m1 tw) :
    (f40 i = 0 ∧ f41 i = -1 ∧ f42 i = -1 ∧ p1 = 0 ∧ n1 = 0 ∧ m1 = 0 ∧ gm = gl ∧ ex = 1 ∧ tw = 7) ∨ (f40 i = 1 ∧ n1 = 0 ∧ m1 = 0 ∧ gl ≤ gm ∧ ex = 1 ∧ tw = 1 ∧ ∃ a b c, OpT G f29 (f41 i) (51 - 2 * w) a ∧ OpT G f29 (f42 i) (51 - 2 * w) b ∧ p1 = a + b ∧ res = nI c ∧ TruO G f29 c (51 - 2 * w)) := by
  rcases h with ⟨h1, h2, h3, ⟨a1, a2, a3, a4⟩, ⟨_, a5⟩, _, h4⟩ | ⟨h1, ck, ⟨⟨_, b1, _, b2⟩, h2⟩, c, h3, h4⟩
  · exact Or.inl ⟨h1, h2, h3, a1, a2, a3, a4, a5 (by decide), by omega⟩
  · rcases h2 with h | h | h | h | h | h | h | ⟨_, d1, d2, d3, d4, a, b, d5, d6, d7⟩ | h | h | h | h
    · exact absurd h.1 (by decide)
    · exact absurd h.1 (by decide)
    · exact absurd h.1 (by decide)
    · exact absurd h.1 (by decide)
    · exact absurd h.1 (by decide)
    · exact absurd h.1 (by decide)
    · exact absurd h.1 (by decide)
    · rcases h4 with h4 | h4 | ⟨e1, e2, e3⟩
      · exact absurd h4.1 (by omega)
      · exact absurd h4.1 (by omega)
      · exact Or.inr ⟨d2, d3, d4, b2, b1 (by decide), h1, a, b, c, d5, d6, d7, h3, e3⟩
    · exact absurd h.1 (by decide)
    · exact absurd h.1 (by decide)
    · exact absurd h.1 (by decide)
    · exact absurd h.1 (by decide)
end
section
theorem hd_yX12_node_RX12 : yX12_node.cls = RX12 ∧ yX12_node.cls ≠ "java/lang/invoke/MethodHandle" ∧ yX12_node.cls ≠ "java/lang/invoke/VarHandle" ∧ (parseMethodDescriptor yX12_node.desc).map (fun d => d.parameters.length) = some 5 := by decide +kernel
theorem hd_yX12_end1_RX12 : yX12_end1.cls = RX12 ∧ yX12_end1.cls ≠ "java/lang/invoke/MethodHandle" ∧ yX12_end1.cls ≠ "java/lang/invoke/VarHandle" ∧ (parseMethodDescriptor yX12_end1.desc).map (fun d => d.parameters.length) = some 1 := by decide +kernel
theorem dX12_readLinear_0 : decode cX12_readLinear 0 = .ok (.aload_n 0, 1) := dk_42 (by decide +kernel)
theorem dX12_readLinear_1 : decode cX12_readLinear 1 = .ok (.getfield 143, 3) := dk_180 (by decide +kernel)
theorem dX12_readLinear_4 : decode cX12_readLinear 4 = .ok (.iload_n 1, 1) := dk_27 (by decide +kernel)
theorem dX12_readLinear_5 : decode cX12_readLinear 5 = .ok (.iaload, 1) := dk_46 (by decide +kernel)
theorem dX12_readLinear_6 : decode cX12_readLinear 6 = .ok (.ifCond .ne 16, 3) := dk_154 (by decide +kernel)
theorem dX12_readLinear_9 : decode cX12_readLinear 9 = .ok (.aload_n 0, 1) := dk_42 (by decide +kernel)
theorem dX12_readLinear_10 : decode cX12_readLinear 10 = .ok (.getfield 143, 3) := dk_180 (by decide +kernel)
theorem dX12_readLinear_13 : decode cX12_readLinear 13 = .ok (.iload_n 1, 1) := dk_27 (by decide +kernel)
theorem dX12_readLinear_14 : decode cX12_readLinear 14 = .ok (.iconst 1, 1) := dk_4 (by decide +kernel)
theorem dX12_readLinear_15 : decode cX12_readLinear 15 = .ok (.iastore, 1) := dk_79 (by decide +kernel)
theorem dX12_readLinear_16 : decode cX12_readLinear 16 = .ok (.aload_n 0, 1) := dk_42 (by decide +kernel)
theorem dX12_readLinear_17 : decode cX12_readLinear 17 = .ok (.iconst 1, 1) := dk_4 (by decide +kernel)
theorem dX12_readLinear_18 : decode cX12_readLinear 18 = .ok (.invokevirtual 586, 3) := dk_182 (by decide +kernel)
theorem dX12_readLinear_21 : decode cX12_readLinear 21 = .ok (.return_, 1) := dk_177 (by decide +kernel)
theorem dX12_readLinear_22 : decode cX12_readLinear 22 = .ok (.aload_n 0, 1) := dk_42 (by decide +kernel)
theorem dX12_readLinear_23 : decode cX12_readLinear 23 = .ok (.getfield 149, 3) := dk_180 (by decide +kernel)
theorem dX12_readLinear_26 : decode cX12_readLinear 26 = .ok (.iload_n 1, 1) := dk_27 (by decide +kernel)
theorem dX12_readLinear_27 : decode cX12_readLinear 27 = .ok (.aload_n 0, 1) := dk_42 (by decide +kernel)
theorem dX12_readLinear_28 : decode cX12_readLinear 28 = .ok (.getfield 149, 3) := dk_180 (by decide +kernel)
theorem dX12_readLinear_31 : decode cX12_readLinear 31 = .ok (.iload_n 1, 1) := dk_27 (by decide +kernel)
theorem dX12_readLinear_32 : decode cX12_readLinear 32 = .ok (.iaload, 1) := dk_46 (by decide +kernel)
theorem dX12_readLinear_33 : decode cX12_readLinear 33 = .ok (.iconst (-1), 1) := dk_2 (by decide +kernel)
theorem dX12_readLinear_34 : decode cX12_readLinear 34 = .ok (.if_icmp .ne 10, 3) := dk_160 (by decide +kernel)
theorem dX12_readLinear_37 : decode cX12_readLinear 37 = .ok (.aload_n 0, 1) := dk_42 (by decide +kernel)
theorem dX12_readLinear_38 : decode cX12_readLinear 38 = .ok (.getfield 580, 3) := dk_180 (by decide +kernel)
theorem dX12_readLinear_41 : decode cX12_readLinear 41 = .ok (.goto 42, 3) := dk_167 (by decide +kernel)
theorem dX12_readLinear_44 : decode cX12_readLinear 44 = .ok (.aload_n 0, 1) := dk_42 (by decide +kernel)
theorem dX12_readLinear_45 : decode cX12_readLinear 45 = .ok (.aload_n 0, 1) := dk_42 (by decide +kernel)
theorem dX12_readLinear_46 : decode cX12_readLinear 46 = .ok (.getfield 155, 3) := dk_180 (by decide +kernel)
theorem dX12_readLinear_49 : decode cX12_readLinear 49 = .ok (.iload_n 1, 1) := dk_27 (by decide +kernel)
theorem dX12_readLinear_50 : decode cX12_readLinear 50 = .ok (.iaload, 1) := dk_46 (by decide +kernel)
theorem dX12_readLinear_51 : decode cX12_readLinear 51 = .ok (.bipush 42, 2) := dk_16 (by decide +kernel)
theorem dX12_readLinear_53 : decode cX12_readLinear 53 = .ok (.if_icmp .ne 8, 3) := dk_160 (by decide +kernel)
theorem dX12_readLinear_56 : decode cX12_readLinear 56 = .ok (.bipush 7, 2) := dk_16 (by decide +kernel)
theorem dX12_readLinear_58 : decode cX12_readLinear 58 = .ok (.goto 5, 3) := dk_167 (by decide +kernel)
theorem dX12_readLinear_61 : decode cX12_readLinear 61 = .ok (.bipush 8, 2) := dk_16 (by decide +kernel)
theorem dX12_readLinear_63 : decode cX12_readLinear 63 = .ok (.aload_n 0, 1) := dk_42 (by decide +kernel)
theorem dX12_readLinear_64 : decode cX12_readLinear 64 = .ok (.getfield 149, 3) := dk_180 (by decide +kernel)
theorem dX12_readLinear_67 : decode cX12_readLinear 67 = .ok (.iload_n 1, 1) := dk_27 (by decide +kernel)
theorem dX12_readLinear_68 : decode cX12_readLinear 68 = .ok (.iaload, 1) := dk_46 (by decide +kernel)
theorem dX12_readLinear_69 : decode cX12_readLinear 69 = .ok (.aload_n 0, 1) := dk_42 (by decide +kernel)
theorem dX12_readLinear_70 : decode cX12_readLinear 70 = .ok (.getfield 580, 3) := dk_180 (by decide +kernel)
theorem dX12_readLinear_73 : decode cX12_readLinear 73 = .ok (.iconst 0, 1) := dk_3 (by decide +kernel)
theorem dX12_readLinear_74 : decode cX12_readLinear 74 = .ok (.aload_n 0, 1) := dk_42 (by decide +kernel)
theorem dX12_readLinear_75 : decode cX12_readLinear 75 = .ok (.getfield 161, 3) := dk_180 (by decide +kernel)
theorem dX12_readLinear_78 : decode cX12_readLinear 78 = .ok (.iload_n 1, 1) := dk_27 (by decide +kernel)
theorem dX12_readLinear_79 : decode cX12_readLinear 79 = .ok (.iaload, 1) := dk_46 (by decide +kernel)
theorem dX12_readLinear_80 : decode cX12_readLinear 80 = .ok (.invokevirtual 601, 3) := dk_182 (by decide +kernel)
theorem dX12_readLinear_83 : decode cX12_readLinear 83 = .ok (.iastore, 1) := dk_79 (by decide +kernel)
theorem dX12_readLinear_84 : decode cX12_readLinear 84 = .ok (.aload_n 0, 1) := dk_42 (by decide +kernel)
theorem dX12_readLinear_85 : decode cX12_readLinear 85 = .ok (.bipush 42, 2) := dk_16 (by decide +kernel)
theorem dX12_readLinear_87 : decode cX12_readLinear 87 = .ok (.invokevirtual 521, 3) := dk_182 (by decide +kernel)
theorem dX12_readLinear_90 : decode cX12_readLinear 90 = .ok (.ifCond .ne 12, 3) := dk_154 (by decide +kernel)
theorem dX12_readLinear_93 : decode cX12_readLinear 93 = .ok (.aload_n 0, 1) := dk_42 (by decide +kernel)
theorem dX12_readLinear_94 : decode cX12_readLinear 94 = .ok (.bipush 47, 2) := dk_16 (by decide +kernel)
theorem dX12_readLinear_96 : decode cX12_readLinear 96 = .ok (.invokevirtual 521, 3) := dk_182 (by decide +kernel)
theorem dX12_readLinear_99 : decode cX12_readLinear 99 = .ok (.ifCond .eq 33, 3) := dk_153 (by decide +kernel)
theorem dX12_readLinear_102 : decode cX12_readLinear 102 = .ok (.aload_n 0, 1) := dk_42 (by decide +kernel)
theorem dX12_readLinear_103 : decode cX12_readLinear 103 = .ok (.getfield 155, 3) := dk_180 (by decide +kernel)
theorem dX12_readLinear_106 : decode cX12_readLinear 106 = .ok (.iload_n 1, 1) := dk_27 (by decide +kernel)
theorem dX12_readLinear_107 : decode cX12_readLinear 107 = .ok (.aload_n 0, 1) := dk_42 (by decide +kernel)
theorem dX12_readLinear_108 : decode cX12_readLinear 108 = .ok (.getfield 491, 3) := dk_180 (by decide +kernel)
theorem dX12_readLinear_111 : decode cX12_readLinear 111 = .ok (.iastore, 1) := dk_79 (by decide +kernel)
theorem dX12_readLinear_112 : decode cX12_readLinear 112 = .ok (.aload_n 0, 1) := dk_42 (by decide +kernel)
theorem dX12_readLinear_113 : decode cX12_readLinear 113 = .ok (.getfield 161, 3) := dk_180 (by decide +kernel)
theorem dX12_readLinear_116 : decode cX12_readLinear 116 = .ok (.iload_n 1, 1) := dk_27 (by decide +kernel)
theorem dX12_readLinear_117 : decode cX12_readLinear 117 = .ok (.aload_n 0, 1) := dk_42 (by decide +kernel)
theorem dX12_readLinear_118 : decode cX12_readLinear 118 = .ok (.getfield 488, 3) := dk_180 (by decide +kernel)
theorem dX12_readLinear_121 : decode cX12_readLinear 121 = .ok (.iastore, 1) := dk_79 (by decide +kernel)
theorem dX12_readLinear_122 : decode cX12_readLinear 122 = .ok (.aload_n 0, 1) := dk_42 (by decide +kernel)
theorem dX12_readLinear_123 : decode cX12_readLinear 123 = .ok (.invokevirtual 524, 3) := dk_182 (by decide +kernel)
theorem dX12_readLinear_126 : decode cX12_readLinear 126 = .ok (.aload_n 0, 1) := dk_42 (by decide +kernel)
theorem dX12_readLinear_127 : decode cX12_readLinear 127 = .ok (.iconst 1, 1) := dk_4 (by decide +kernel)
theorem dX12_readLinear_128 : decode cX12_readLinear 128 = .ok (.invokevirtual 586, 3) := dk_182 (by decide +kernel)
theorem dX12_readLinear_131 : decode cX12_readLinear 131 = .ok (.return_, 1) := dk_177 (by decide +kernel)
theorem dX12_readLinear_132 : decode cX12_readLinear 132 = .ok (.aload_n 0, 1) := dk_42 (by decide +kernel)
theorem dX12_readLinear_133 : decode cX12_readLinear 133 = .ok (.getfield 146, 3) := dk_180 (by decide +kernel)
theorem dX12_readLinear_136 : decode cX12_readLinear 136 = .ok (.iload_n 1, 1) := dk_27 (by decide +kernel)
theorem dX12_readLinear_137 : decode cX12_readLinear 137 = .ok (.aload_n 0, 1) := dk_42 (by decide +kernel)
theorem dX12_readLinear_138 : decode cX12_readLinear 138 = .ok (.getfield 146, 3) := dk_180 (by decide +kernel)
theorem dX12_readLinear_141 : decode cX12_readLinear 141 = .ok (.iload_n 1, 1) := dk_27 (by decide +kernel)
theorem dX12_readLinear_142 : decode cX12_readLinear 142 = .ok (.iaload, 1) := dk_46 (by decide +kernel)
theorem dX12_readLinear_143 : decode cX12_readLinear 143 = .ok (.iconst (-1), 1) := dk_2 (by decide +kernel)
theorem dX12_readLinear_144 : decode cX12_readLinear 144 = .ok (.if_icmp .ne 12, 3) := dk_160 (by decide +kernel)
theorem dX12_readLinear_147 : decode cX12_readLinear 147 = .ok (.aload_n 0, 1) := dk_42 (by decide +kernel)
theorem dX12_readLinear_148 : decode cX12_readLinear 148 = .ok (.getfield 149, 3) := dk_180 (by decide +kernel)
theorem dX12_readLinear_151 : decode cX12_readLinear 151 = .ok (.iload_n 1, 1) := dk_27 (by decide +kernel)
theorem dX12_readLinear_152 : decode cX12_readLinear 152 = .ok (.iaload, 1) := dk_46 (by decide +kernel)
theorem dX12_readLinear_153 : decode cX12_readLinear 153 = .ok (.goto 43, 3) := dk_167 (by decide +kernel)
theorem dX12_readLinear_156 : decode cX12_readLinear 156 = .ok (.aload_n 0, 1) := dk_42 (by decide +kernel)
theorem dX12_readLinear_157 : decode cX12_readLinear 157 = .ok (.aload_n 0, 1) := dk_42 (by decide +kernel)
theorem dX12_readLinear_158 : decode cX12_readLinear 158 = .ok (.getfield 152, 3) := dk_180 (by decide +kernel)
theorem dX12_readLinear_161 : decode cX12_readLinear 161 = .ok (.iload_n 1, 1) := dk_27 (by decide +kernel)
theorem dX12_readLinear_162 : decode cX12_readLinear 162 = .ok (.iaload, 1) := dk_46 (by decide +kernel)
theorem dX12_readLinear_163 : decode cX12_readLinear 163 = .ok (.bipush 43, 2) := dk_16 (by decide +kernel)
theorem dX12_readLinear_165 : decode cX12_readLinear 165 = .ok (.if_icmp .ne 7, 3) := dk_160 (by decide +kernel)
theorem dX12_readLinear_168 : decode cX12_readLinear 168 = .ok (.iconst 5, 1) := dk_8 (by decide +kernel)
theorem dX12_readLinear_169 : decode cX12_readLinear 169 = .ok (.goto 5, 3) := dk_167 (by decide +kernel)
theorem dX12_readLinear_172 : decode cX12_readLinear 172 = .ok (.bipush 6, 2) := dk_16 (by decide +kernel)
theorem dX12_readLinear_174 : decode cX12_readLinear 174 = .ok (.aload_n 0, 1) := dk_42 (by decide +kernel)
theorem dX12_readLinear_175 : decode cX12_readLinear 175 = .ok (.getfield 146, 3) := dk_180 (by decide +kernel)
theorem dX12_readLinear_178 : decode cX12_readLinear 178 = .ok (.iload_n 1, 1) := dk_27 (by decide +kernel)
theorem dX12_readLinear_179 : decode cX12_readLinear 179 = .ok (.iaload, 1) := dk_46 (by decide +kernel)
theorem dX12_readLinear_180 : decode cX12_readLinear 180 = .ok (.aload_n 0, 1) := dk_42 (by decide +kernel)
theorem dX12_readLinear_181 : decode cX12_readLinear 181 = .ok (.getfield 149, 3) := dk_180 (by decide +kernel)
theorem dX12_readLinear_184 : decode cX12_readLinear 184 = .ok (.iload_n 1, 1) := dk_27 (by decide +kernel)
theorem dX12_readLinear_185 : decode cX12_readLinear 185 = .ok (.iaload, 1) := dk_46 (by decide +kernel)
theorem dX12_readLinear_186 : decode cX12_readLinear 186 = .ok (.iconst 0, 1) := dk_3 (by decide +kernel)
theorem dX12_readLinear_187 : decode cX12_readLinear 187 = .ok (.aload_n 0, 1) := dk_42 (by decide +kernel)
theorem dX12_readLinear_188 : decode cX12_readLinear 188 = .ok (.getfield 158, 3) := dk_180 (by decide +kernel)
theorem dX12_readLinear_191 : decode cX12_readLinear 191 = .ok (.iload_n 1, 1) := dk_27 (by decide +kernel)
theorem dX12_readLinear_192 : decode cX12_readLinear 192 = .ok (.iaload, 1) := dk_46 (by decide +kernel)
theorem dX12_readLinear_193 : decode cX12_readLinear 193 = .ok (.invokevirtual 601, 3) := dk_182 (by decide +kernel)
theorem dX12_readLinear_196 : decode cX12_readLinear 196 = .ok (.iastore, 1) := dk_79 (by decide +kernel)
theorem dX12_readLinear_197 : decode cX12_readLinear 197 = .ok (.aload_n 0, 1) := dk_42 (by decide +kernel)
theorem dX12_readLinear_198 : decode cX12_readLinear 198 = .ok (.getfield 149, 3) := dk_180 (by decide +kernel)
theorem dX12_readLinear_201 : decode cX12_readLinear 201 = .ok (.iload_n 1, 1) := dk_27 (by decide +kernel)
theorem dX12_readLinear_202 : decode cX12_readLinear 202 = .ok (.iconst (-1), 1) := dk_2 (by decide +kernel)
theorem dX12_readLinear_203 : decode cX12_readLinear 203 = .ok (.iastore, 1) := dk_79 (by decide +kernel)
theorem dX12_readLinear_204 : decode cX12_readLinear 204 = .ok (.aload_n 0, 1) := dk_42 (by decide +kernel)
theorem dX12_readLinear_205 : decode cX12_readLinear 205 = .ok (.bipush 43, 2) := dk_16 (by decide +kernel)
theorem dX12_readLinear_207 : decode cX12_readLinear 207 = .ok (.invokevirtual 521, 3) := dk_182 (by decide +kernel)
theorem dX12_readLinear_210 : decode cX12_readLinear 210 = .ok (.ifCond .ne 12, 3) := dk_154 (by decide +kernel)
theorem dX12_readLinear_213 : decode cX12_readLinear 213 = .ok (.aload_n 0, 1) := dk_42 (by decide +kernel)
theorem dX12_readLinear_214 : decode cX12_readLinear 214 = .ok (.bipush 45, 2) := dk_16 (by decide +kernel)
theorem dX12_readLinear_216 : decode cX12_readLinear 216 = .ok (.invokevirtual 521, 3) := dk_182 (by decide +kernel)
theorem dX12_readLinear_219 : decode cX12_readLinear 219 = .ok (.ifCond .eq 33, 3) := dk_153 (by decide +kernel)
theorem dX12_readLinear_222 : decode cX12_readLinear 222 = .ok (.aload_n 0, 1) := dk_42 (by decide +kernel)
theorem dX12_readLinear_223 : decode cX12_readLinear 223 = .ok (.getfield 152, 3) := dk_180 (by decide +kernel)
theorem dX12_readLinear_226 : decode cX12_readLinear 226 = .ok (.iload_n 1, 1) := dk_27 (by decide +kernel)
theorem dX12_readLinear_227 : decode cX12_readLinear 227 = .ok (.aload_n 0, 1) := dk_42 (by decide +kernel)
theorem dX12_readLinear_228 : decode cX12_readLinear 228 = .ok (.getfield 491, 3) := dk_180 (by decide +kernel)
theorem dX12_readLinear_231 : decode cX12_readLinear 231 = .ok (.iastore, 1) := dk_79 (by decide +kernel)
theorem dX12_readLinear_232 : decode cX12_readLinear 232 = .ok (.aload_n 0, 1) := dk_42 (by decide +kernel)
theorem dX12_readLinear_233 : decode cX12_readLinear 233 = .ok (.getfield 158, 3) := dk_180 (by decide +kernel)
theorem dX12_readLinear_236 : decode cX12_readLinear 236 = .ok (.iload_n 1, 1) := dk_27 (by decide +kernel)
theorem dX12_readLinear_237 : decode cX12_readLinear 237 = .ok (.aload_n 0, 1) := dk_42 (by decide +kernel)
theorem dX12_readLinear_238 : decode cX12_readLinear 238 = .ok (.getfield 488, 3) := dk_180 (by decide +kernel)
theorem dX12_readLinear_241 : decode cX12_readLinear 241 = .ok (.iastore, 1) := dk_79 (by decide +kernel)
theorem dX12_readLinear_242 : decode cX12_readLinear 242 = .ok (.aload_n 0, 1) := dk_42 (by decide +kernel)
theorem dX12_readLinear_243 : decode cX12_readLinear 243 = .ok (.invokevirtual 524, 3) := dk_182 (by decide +kernel)
theorem dX12_readLinear_246 : decode cX12_readLinear 246 = .ok (.aload_n 0, 1) := dk_42 (by decide +kernel)
theorem dX12_readLinear_247 : decode cX12_readLinear 247 = .ok (.iconst 1, 1) := dk_4 (by decide +kernel)
theorem dX12_readLinear_248 : decode cX12_readLinear 248 = .ok (.invokevirtual 586, 3) := dk_182 (by decide +kernel)
theorem dX12_readLinear_251 : decode cX12_readLinear 251 = .ok (.return_, 1) := dk_177 (by decide +kernel)
theorem dX12_readLinear_252 : decode cX12_readLinear 252 = .ok (.aload_n 0, 1) := dk_42 (by decide +kernel)
theorem dX12_readLinear_253 : decode cX12_readLinear 253 = .ok (.aload_n 0, 1) := dk_42 (by decide +kernel)
theorem dX12_readLinear_254 : decode cX12_readLinear 254 = .ok (.getfield 146, 3) := dk_180 (by decide +kernel)
theorem dX12_readLinear_257 : decode cX12_readLinear 257 = .ok (.iload_n 1, 1) := dk_27 (by decide +kernel)
theorem dX12_readLinear_258 : decode cX12_readLinear 258 = .ok (.iaload, 1) := dk_46 (by decide +kernel)
theorem dX12_readLinear_259 : decode cX12_readLinear 259 = .ok (.invokevirtual 605, 3) := dk_182 (by decide +kernel)
theorem dX12_readLinear_262 : decode cX12_readLinear 262 = .ok (.return_, 1) := dk_177 (by decide +kernel)
def wsRX12_readLinear : List Cond := .code yX12_readLinear cX12_readLinear 2 none :: ([.fieldLink RX12 143 "OptimaWorksModel" "step" "[I", .fieldLink RX12 149 "OptimaWorksModel" "got2" "[I", .fieldLink RX12 155 "OptimaWorksModel" "sign2" "[I", .fieldLink RX12 580 "OptimaWorksModel" "result" "I", .fieldLink RX12 161 "OptimaWorksModel" "at2" "[I", .fieldLink RX12 491 "OptimaWorksModel" "sign0" "I", .fieldLink RX12 488 "OptimaWorksModel" "from" "I", .fieldLink RX12 146 "OptimaWorksModel" "got1" "[I", .fieldLink RX12 152 "OptimaWorksModel" "sign1" "[I", .fieldLink RX12 158 "OptimaWorksModel" "at1" "[I"] ++ wsX120 ++ (wsV RX12 601 RX12 yX12_node wsRX12_node) ++ (wsV RX12 521 RX12 yX12_isSign wsRX12_isSign) ++ (wsV RX12 524 RX12 yX12_next wsRX12_next) ++ (wsV RX12 586 RX12 yX12_begin1 wsRX12_begin1) ++ (wsV RX12 605 RX12 yX12_end1 wsRend1w))
theorem iwsRX12_readLinear_in12 : ∀ w ∈ wsX120, w ∈ wsRX12_readLinear := fun _ h => List.mem_cons_of_mem _ (List.mem_append_left _ (List.mem_append_left _ (List.mem_append_left _ (List.mem_append_left _ (List.mem_append_left _ (List.mem_append_right _ h))))))
theorem gwsRX12_readLinear_0 : GoodIn wsRX12_readLinear (wsV RX12 601 RX12 yX12_node wsRX12_node) := goodIn_sub (fun _ h => List.mem_cons_of_mem _ (List.mem_append_left _ (List.mem_append_left _ (List.mem_append_left _ (List.mem_append_left _ (List.mem_append_right _ h)))))) (gdV (by decide +kernel) gdwsRX12_node)
theorem gwsRX12_readLinear_1 : GoodIn wsRX12_readLinear (wsV RX12 521 RX12 yX12_isSign wsRX12_isSign) := goodIn_sub (fun _ h => List.mem_cons_of_mem _ (List.mem_append_left _ (List.mem_append_left _ (List.mem_append_left _ (List.mem_append_right _ h))))) (gdV (by decide +kernel) gdwsRX12_isSign)
theorem gwsRX12_readLinear_2 : GoodIn wsRX12_readLinear (wsV RX12 524 RX12 yX12_next wsRX12_next) := goodIn_sub (fun _ h => List.mem_cons_of_mem _ (List.mem_append_left _ (List.mem_append_left _ (List.mem_append_right _ h)))) (gdV (by decide +kernel) gdwsRX12_next)
theorem gwsRX12_readLinear_3 : GoodIn wsRX12_readLinear (wsV RX12 586 RX12 yX12_begin1 wsRX12_begin1) := goodIn_sub (fun _ h => List.mem_cons_of_mem _ (List.mem_append_left _ (List.mem_append_right _ h))) (gdV (by decide +kernel) gdwsRX12_begin1)
theorem gwsRX12_readLinear_4 : GoodIn wsRX12_readLinear (wsV RX12 605 RX12 yX12_end1 wsRend1w) := goodIn_sub (fun _ h => List.mem_cons_of_mem _ (List.mem_append_right _ h)) (gdV (by decide +kernel) gdwsRend1w)
theorem gdwsRX12_readLinear : wsRX12_readLinear.all goodWord = true := gdC rfl (gdA (gdA (gdA (gdA (gdA (gdA (by decide +kernel : ([.fieldLink RX12 143 "OptimaWorksModel" "step" "[I", .fieldLink RX12 149 "OptimaWorksModel" "got2" "[I", .fieldLink RX12 155 "OptimaWorksModel" "sign2" "[I", .fieldLink RX12 580 "OptimaWorksModel" "result" "I", .fieldLink RX12 161 "OptimaWorksModel" "at2" "[I", .fieldLink RX12 491 "OptimaWorksModel" "sign0" "I", .fieldLink RX12 488 "OptimaWorksModel" "from" "I", .fieldLink RX12 146 "OptimaWorksModel" "got1" "[I", .fieldLink RX12 152 "OptimaWorksModel" "sign1" "[I", .fieldLink RX12 158 "OptimaWorksModel" "at1" "[I"] : List Cond).all goodWord = true) gdwsX120) (gdV (by decide +kernel) gdwsRX12_node)) (gdV (by decide +kernel) gdwsRX12_isSign)) (gdV (by decide +kernel) gdwsRX12_next)) (gdV (by decide +kernel) gdwsRX12_begin1)) (gdV (by decide +kernel) gdwsRend1w))
theorem hm_r_X12_readLinear_0 : (.fieldLink RX12 143 "OptimaWorksModel" "step" "[I" : Cond) ∈ wsRX12_readLinear := by decide +kernel
theorem hm_r_X12_readLinear_1 : (.fieldLink RX12 149 "OptimaWorksModel" "got2" "[I" : Cond) ∈ wsRX12_readLinear := by decide +kernel
theorem hm_r_X12_readLinear_2 : (.fieldLink RX12 155 "OptimaWorksModel" "sign2" "[I" : Cond) ∈ wsRX12_readLinear := by decide +kernel
theorem hm_r_X12_readLinear_3 : (.fieldLink RX12 580 "OptimaWorksModel" "result" "I" : Cond) ∈ wsRX12_readLinear := by decide +kernel
theorem hm_r_X12_readLinear_4 : (.fieldLink RX12 161 "OptimaWorksModel" "at2" "[I" : Cond) ∈ wsRX12_readLinear := by decide +kernel
theorem hm_r_X12_readLinear_5 : (.fieldLink RX12 491 "OptimaWorksModel" "sign0" "I" : Cond) ∈ wsRX12_readLinear := by decide +kernel
theorem hm_r_X12_readLinear_6 : (.fieldLink RX12 488 "OptimaWorksModel" "from" "I" : Cond) ∈ wsRX12_readLinear := by decide +kernel
theorem hm_r_X12_readLinear_7 : (.fieldLink RX12 146 "OptimaWorksModel" "got1" "[I" : Cond) ∈ wsRX12_readLinear := by decide +kernel
theorem hm_r_X12_readLinear_8 : (.fieldLink RX12 152 "OptimaWorksModel" "sign1" "[I" : Cond) ∈ wsRX12_readLinear := by decide +kernel
theorem hm_r_X12_readLinear_9 : (.fieldLink RX12 158 "OptimaWorksModel" "at1" "[I" : Cond) ∈ wsRX12_readLinear := by decide +kernel
set_option maxHeartbeats 4000000 in
set_option maxRecDepth 100000 in
/-- readLinear(d) -/
theorem r_X12_readLinear (l : Launch) (dC : Nat → ClassId) (dI : Nat → Nat → Nat) (a : Nat → Nat) (k : Nat → ClassId) (h0 : Nat) (vi : Nat → Int32) (vj : Nat → Int64) (vF : Nat → Nat → Int32) (vG : Nat → Nat → Int64) (tp : Nat) (an : Nat) (fn : Nat) (nm : Nat) (se : Nat) (pa : Nat) (va : Nat) (bd : Nat) (tT : Nat → Nat → Int32) (gG : RG) (bs : Nat) (r0 : Nat) (dN : Nat) (wi : Nat) (nd : Nat) (mM : Nat) (cw : Nat) (uu : Nat) (pe : Nat) (un : Nat) (gl : Nat) (gm : Nat) (xe : Nat) (p1 : Nat) (n1 : Nat) (m1 : Nat) (tw : Nat) (hTp : vi 16 = nI tp) (htp : tp ≤ 4000) (ha0 : vi 17 = nI an) (hfr : vi 19 = nI fn) (hLx : LxO tp fn an (vi 18) (vi 20)) (hst0 : 0 ≤ (vi 21).toInt) (hnm : vi 25 = nI nm) (hnm40 : nm ≤ 40) (hno : NmO (vF 11) (vF 12) nm) (hNk : NkO (vF 10) (vF 13) nm se pa va) (hbd : vi 30 = nI bd) (hbd60 : bd ≤ 60) (hbo : NmO (vF 14) (vF 15) 60) (hse44 : se ≤ 44) (hRV : RdV tT gG (vF 29) (vF 30) (vF 31) (vF 32) (vF 36) (vF 37) (vF 38) se nd bs) (hRT : RdT tT gG (vF 29) (vF 30) (vF 31) (vF 32) (vF 36) (vF 37) (vF 38) (vF 39) (vF 40) (vF 41) (vF 42) (vF 48) (vi 18) (vi 20) (vi 76) se bs r0 dN wi nd bd fn mM 0 cw uu pe un gl gm xe p1 n1 m1 tw) (hdp : vi 74 = nI (dN + 1)) (hwi : vi 75 = nI wi) (hnd : vi 52 = nI nd) (sz : Nat) : Met l yX12_readLinear wsRX12_readLinear ({ frames := 8, cells := 0, slots := 0, locals := 173 }) (va_Pc [.ref h0, .int (nI dN)] (fun U => U.heap.size = sz ∧ va_P (dC, dI) vwCl (WR a k h0 vi vj vF vG) U.heap ∧ va_K (dC, dI) vwCl (tX12 k) U ∧ va_D (fun _ => True) (WR a k h0 vi vj vF vG) ∧ StrA (va_A (WR a k h0 vi vj vF vG) sz) U U.heap)) (va_Qv (fun (u : (Nat) × (Nat) × (Int32) × (Int32) × (Int32) × (Int32) × (Nat → Int32) × (Nat → Int32) × (Nat → Int32) × (Nat → Int32) × (Nat → Int32) × (Nat → Int32) × (Nat → Int32) × (Nat → Int32) × (Nat → Int32) × (Nat → Int32) × (Nat → Int32) × (Nat → Int32) × (Nat → Int32) × (Nat → Int32) × (Nat → Int32) × (Nat → Int32) × (Nat → Int32) × (Nat) × (Nat) × (Nat) × (Int32) × (Int32) × (RG)) => (LxO tp (u.2.1) (u.1) (u.2.2.2.1) (u.2.2.1)) ∧ (fn ≤ (u.2.1)) ∧ (0 ≤ ((u.2.2.2.2.1)).toInt) ∧ (0 < ((u.2.2.2.2.1)).toInt ∨ (RdS tT (u.2.2.2.2.2.2.2.2.2.2.2.2.2.2.2.2.2.2.2.2.2.2.2.2.2.2.2.2) (u.2.2.2.2.2.2.1) (u.2.2.2.2.2.2.2.1) (u.2.2.2.2.2.2.2.2.1) (u.2.2.2.2.2.2.2.2.2.1) (vF 36) (vF 37) (vF 38) (u.2.2.2.2.2.2.2.2.2.2.2.2.2.1) (u.2.2.2.2.2.2.2.2.2.2.2.2.2.2.1) (u.2.2.2.2.2.2.2.2.2.2.2.2.2.2.2.1) (u.2.2.2.2.2.2.2.2.2.2.2.2.2.2.2.2.1) (u.2.2.2.2.2.2.2.2.2.2.2.2.2.2.2.2.2.2.2.2.2.2.1) (u.2.2.2.1) (u.2.2.1) (u.2.2.2.2.2.2.2.2.2.2.2.2.2.2.2.2.2.2.2.2.2.2.2.2.2.2.1) se bs r0 (u.2.2.2.2.2.2.2.2.2.2.2.2.2.2.2.2.2.2.2.2.2.2.2.1) (u.2.2.2.2.2.2.2.2.2.2.2.2.2.2.2.2.2.2.2.2.2.2.2.2.1) (u.2.2.2.2.2.2.2.2.2.2.2.2.2.2.2.2.2.2.2.2.2.2.2.2.2.1) bd (u.2.1) (mM - 1) ∧ Ext 0 bs gG (vF 29) (vF 30) (vF 31) (vF 32) (vF 36) (vF 37) (vF 38) (u.2.2.2.2.2.2.2.2.2.2.2.2.2.2.2.2.2.2.2.2.2.2.2.2.2.2.2.2) (u.2.2.2.2.2.2.1) (u.2.2.2.2.2.2.2.1) (u.2.2.2.2.2.2.2.2.1) (u.2.2.2.2.2.2.2.2.2.1) (vF 36) (vF 37) (vF 38))) ∧ ((u.2.2.2.2.2.2.2.2.2.2.2.2.2.2.2.2.2.2.2.2.2.2.2.1) ≤ dN + 2)) (fun (u : (Nat) × (Nat) × (Int32) × (Int32) × (Int32) × (Int32) × (Nat → Int32) × (Nat → Int32) × (Nat → Int32) × (Nat → Int32) × (Nat → Int32) × (Nat → Int32) × (Nat → Int32) × (Nat → Int32) × (Nat → Int32) × (Nat → Int32) × (Nat → Int32) × (Nat → Int32) × (Nat → Int32) × (Nat → Int32) × (Nat → Int32) × (Nat → Int32) × (Nat → Int32) × (Nat) × (Nat) × (Nat) × (Int32) × (Int32) × (RG)) t => va_P (dC, dI) vwCl (WR a k h0 (fT (fT (fT (fT (fT (fT (fT (fT (fT (fT (fT vi 52 (nI (u.2.2.2.2.2.2.2.2.2.2.2.2.2.2.2.2.2.2.2.2.2.2.2.2.2.1))) 17 (nI (u.1))) 19 (nI (u.2.1))) 20 (u.2.2.1)) 18 (u.2.2.2.1)) 75 (nI (u.2.2.2.2.2.2.2.2.2.2.2.2.2.2.2.2.2.2.2.2.2.2.2.2.1))) 74 (nI (u.2.2.2.2.2.2.2.2.2.2.2.2.2.2.2.2.2.2.2.2.2.2.2.1))) 21 (u.2.2.2.2.1)) 22 (u.2.2.2.2.2.1)) 76 (u.2.2.2.2.2.2.2.2.2.2.2.2.2.2.2.2.2.2.2.2.2.2.2.2.2.2.1)) 77 (u.2.2.2.2.2.2.2.2.2.2.2.2.2.2.2.2.2.2.2.2.2.2.2.2.2.2.2.1)) vj (fT (fT (fT (fT (fT (fT (fT (fT (fT (fT (fT (fT (fT (fT (fT (fT (fT vF 29 (u.2.2.2.2.2.2.1)) 30 (u.2.2.2.2.2.2.2.1)) 31 (u.2.2.2.2.2.2.2.2.1)) 32 (u.2.2.2.2.2.2.2.2.2.1)) 33 (u.2.2.2.2.2.2.2.2.2.2.1)) 34 (u.2.2.2.2.2.2.2.2.2.2.2.1)) 35 (u.2.2.2.2.2.2.2.2.2.2.2.2.1)) 42 (u.2.2.2.2.2.2.2.2.2.2.2.2.2.2.2.2.1)) 44 (u.2.2.2.2.2.2.2.2.2.2.2.2.2.2.2.2.2.2.1)) 46 (u.2.2.2.2.2.2.2.2.2.2.2.2.2.2.2.2.2.2.2.2.1)) 39 (u.2.2.2.2.2.2.2.2.2.2.2.2.2.1)) 40 (u.2.2.2.2.2.2.2.2.2.2.2.2.2.2.1)) 41 (u.2.2.2.2.2.2.2.2.2.2.2.2.2.2.2.1)) 47 (u.2.2.2.2.2.2.2.2.2.2.2.2.2.2.2.2.2.2.2.2.2.1)) 48 (u.2.2.2.2.2.2.2.2.2.2.2.2.2.2.2.2.2.2.2.2.2.2.1)) 43 (u.2.2.2.2.2.2.2.2.2.2.2.2.2.2.2.2.2.1)) 45 (u.2.2.2.2.2.2.2.2.2.2.2.2.2.2.2.2.2.2.2.1)) vG) t.heap ∧ va_D (va_A (WR a k h0 vi vj vF vG) sz) (WR a k h0 (fT (fT (fT (fT (fT (fT (fT (fT (fT (fT (fT vi 52 (nI (u.2.2.2.2.2.2.2.2.2.2.2.2.2.2.2.2.2.2.2.2.2.2.2.2.2.1))) 17 (nI (u.1))) 19 (nI (u.2.1))) 20 (u.2.2.1)) 18 (u.2.2.2.1)) 75 (nI (u.2.2.2.2.2.2.2.2.2.2.2.2.2.2.2.2.2.2.2.2.2.2.2.2.1))) 74 (nI (u.2.2.2.2.2.2.2.2.2.2.2.2.2.2.2.2.2.2.2.2.2.2.2.1))) 21 (u.2.2.2.2.1)) 22 (u.2.2.2.2.2.1)) 76 (u.2.2.2.2.2.2.2.2.2.2.2.2.2.2.2.2.2.2.2.2.2.2.2.2.2.2.1)) 77 (u.2.2.2.2.2.2.2.2.2.2.2.2.2.2.2.2.2.2.2.2.2.2.2.2.2.2.2.1)) vj (fT (fT (fT (fT (fT (fT (fT (fT (fT (fT (fT (fT (fT (fT (fT (fT (fT vF 29 (u.2.2.2.2.2.2.1)) 30 (u.2.2.2.2.2.2.2.1)) 31 (u.2.2.2.2.2.2.2.2.1)) 32 (u.2.2.2.2.2.2.2.2.2.1)) 33 (u.2.2.2.2.2.2.2.2.2.2.1)) 34 (u.2.2.2.2.2.2.2.2.2.2.2.1)) 35 (u.2.2.2.2.2.2.2.2.2.2.2.2.1)) 42 (u.2.2.2.2.2.2.2.2.2.2.2.2.2.2.2.2.1)) 44 (u.2.2.2.2.2.2.2.2.2.2.2.2.2.2.2.2.2.2.1)) 46 (u.2.2.2.2.2.2.2.2.2.2.2.2.2.2.2.2.2.2.2.2.1)) 39 (u.2.2.2.2.2.2.2.2.2.2.2.2.2.1)) 40 (u.2.2.2.2.2.2.2.2.2.2.2.2.2.2.1)) 41 (u.2.2.2.2.2.2.2.2.2.2.2.2.2.2.2.1)) 47 (u.2.2.2.2.2.2.2.2.2.2.2.2.2.2.2.2.2.2.2.2.2.1)) 48 (u.2.2.2.2.2.2.2.2.2.2.2.2.2.2.2.2.2.2.2.2.2.2.1)) 43 (u.2.2.2.2.2.2.2.2.2.2.2.2.2.2.2.2.2.1)) 45 (u.2.2.2.2.2.2.2.2.2.2.2.2.2.2.2.2.2.2.2.1)) vG)) (va_A (WR a k h0 vi vj vF vG) sz)) 0 0 (va_A (WR a k h0 vi vj vF vG) sz) := by
  refine Met.ofW (cc := cX12_readLinear) (maxL := 2) (ret := none) (by decide) rfl ?_
  intro p e s m args below meth c s₁ B hml hv
  obtain ⟨rfl, hsz, hP, hK, hD0, hE⟩ := hv
  have hx := B.exec
  have hb := B.bytes
  have hr := B.returns
  have hts := atoms_spec (ws := wsRX12_readLinear) B.pre
  have hown : s.vm.findClass RX12 = some m.cls := findClass_of_methodNamed B.named
  have hlocks := B.notSynchronized
  subst hsz
  have hD := hD0.self (sz := s.heap.size)
  generalize hAe : va_A (WR a k h0 vi vj vF vG) s.heap.size = A at hD hE ⊢
  have hA : ∀ q : Nat, s.heap.size ≤ q → A q := fun q h => by rw [← hAe]; exact Or.inr h
  have hS : va_S A s.heap s.heap [] := va_S.rf
  have hl := lv_entry ([.ref h0, .int (nI dN)]) (n := 2) (Nat.le_of_ble_eq_true rfl)
  rw [lg_entry_eq]
  generalize (lg_sl ([.ref h0, .int (nI dN)]) ++ List.replicate (2 - (lg_sl ([.ref h0, .int (nI dN)])).length) Slot.unset).toArray = ls at hl ⊢
  have hl : lv_has ls 2 [(0, .ref h0), (1, .int (nI dN))] := hl
  have hfa := hLx.1
  have han := hLx.2.1
  have han4 : an ≤ 4000 := by omega
  obtain ⟨⟨h39, _, h48⟩, hBel, ⟨h25, hwc⟩, hTq, hc1, hc2, hc3, hc4, hc5, hc6⟩ := hRT
  have hdd := hBel.deep
  refine lv_aload_n hx hb dX12_readLinear_0 rfl (lv_at hl 0 rfl) ?_
  refine va_get (D := (dC, dI)) (ci := 12) (v := .ref (a 40)) (C := RX12) (T := TX12) (N := 163) (fs := fM (vS a vi vj)) hx hb hts iwsRX12_readLinear_in12 hown hK hP 0 rfl rfl 65 (by decide) (hts _ hm_r_X12_readLinear_0) (fun _ h9 => h9) rfl dX12_readLinear_1 ?_
  refine lv_iload_n hx hb dX12_readLinear_4 rfl (lv_at hl 1 rfl) ?_
  refine va_iald (cA := k 40) (n := 120) (f := (vF 40)) hx hb hK hP 41 40 (WR_get 40 (by decide)) (TR_get 40 (by decide)) (vp_in_nI (show dN < 120 by omega) (by omega)) dX12_readLinear_5 ?_
  refine lv_topi (fun y1 hy1 => ?_)
  obtain rfl : ((vF 40) dN) = y1 := (hy1.trans (by rw [nI_clamp (by omega)])).symm
  refine lv_if_ne (tgt := 22) hx hb dX12_readLinear_6 (by decide) (fun c_6 => ?_) (fun c_6 => ?_)
  · have t_6 : (((vF 40) dN)).toInt ≠ 0 := toI_ne c_6 rfl (by decide)
    obtain ⟨hq0, hq1, hq2, hq3, hq4, hq5, qa, qb, cR, hO1, hO2, hp1, hres, hw24, hcR⟩ := hTq.linear.resolve_left (fun h => c_6 h.1)
    have hK0 := RdK.first (gl := gl) hRV (by omega)
    refine lv_aload_n hx hb dX12_readLinear_22 rfl (lv_at hl 0 rfl) ?_
    refine va_get (D := (dC, dI)) (ci := 12) (v := .ref (a 42)) (C := RX12) (T := TX12) (N := 163) (fs := fM (vS a vi vj)) hx hb hts iwsRX12_readLinear_in12 hown hK hP 0 rfl rfl 67 (by decide) (hts _ hm_r_X12_readLinear_1) (fun _ h9 => h9) rfl dX12_readLinear_23 ?_
    refine lv_iload_n hx hb dX12_readLinear_26 rfl (lv_at hl 1 rfl) ?_
    refine lv_aload_n hx hb dX12_readLinear_27 rfl (lv_at hl 0 rfl) ?_
    refine va_get (D := (dC, dI)) (ci := 12) (v := .ref (a 42)) (C := RX12) (T := TX12) (N := 163) (fs := fM (vS a vi vj)) hx hb hts iwsRX12_readLinear_in12 hown hK hP 0 rfl rfl 67 (by decide) (hts _ hm_r_X12_readLinear_1) (fun _ h9 => h9) rfl dX12_readLinear_28 ?_
    refine lv_iload_n hx hb dX12_readLinear_31 rfl (lv_at hl 1 rfl) ?_
    refine va_iald (cA := k 42) (n := 120) (f := (vF 42)) hx hb hK hP 43 42 (WR_get 42 (by decide)) (TR_get 42 (by decide)) (vp_in_nI (show dN < 120 by omega) (by omega)) dX12_readLinear_32 ?_
    refine lv_topi (fun y2 hy2 => ?_)
    obtain rfl : ((vF 42) dN) = y2 := (hy2.trans (by rw [nI_clamp (by omega)])).symm
    refine lv_iconst (v := (-1)) hx hb dX12_readLinear_33 (by decide) ?_
    refine W.cut (pc := 83) (fun H locs ls stk => ∃ (c3 : Nat) (G3 : RG) (nd3 : Nat) (a29 : Nat → Int32) (a30 : Nat → Int32) (a31 : Nat → Int32) (a32 : Nat → Int32) (a33 : Nat → Int32) (a34 : Nat → Int32) (a35 : Nat → Int32), (RdK tT gG (vF 29) (vF 30) (vF 31) (vF 32) (vF 36) (vF 37) (vF 38) G3 a29 a30 a31 a32 (vF 36) (vF 37) (vF 38) se nd3 bs gl) ∧ (LinO G3 a29 c3 (50 - 2 * (cw + xe))) ∧ (nd3 + pe + qa ≤ fn ∧ G3.vN + un ≤ nd3) ∧  stk = [.int (nI c3), .int (nI dN), .ref (a 42)] ∧ va_P (dC, dI) vwCl (WR a k h0 (fT vi 52 (nI nd3)) vj (fT (fT (fT (fT (fT (fT (fT vF 29 a29) 30 a30) 31 a31) 32 a32) 33 a33) 34 a34) 35 a35) vG) H ∧ va_D A (WR a k h0 (fT vi 52 (nI nd3)) vj (fT (fT (fT (fT (fT (fT (fT vF 29 a29) 30 a30) 31 a31) 32 a32) 33 a33) 34 a34) 35 a35) vG) ∧ va_S A s.heap H locs ∧ lv_has ls 2 [(0, .ref h0), (1, .int (nI dN))]) (fun join1 => ?_) ?_
    · refine lv_icmp_ne (tgt := 44) hx hb dX12_readLinear_34 (by decide) (fun c_34 => ?_) (fun c_34 => ?_)
      · have t_34 : (((vF 42) dN)).toInt ≠ -1 := toI_ne c_34 rfl (by decide)
        obtain ⟨hb1, cO, hcO, hcL⟩ := hO2.resolve_left (fun h => c_34 h.1)
        refine lv_aload_n hx hb dX12_readLinear_44 rfl (lv_at hl 0 rfl) ?_
        refine lv_aload_n hx hb dX12_readLinear_45 rfl (lv_at hl 0 rfl) ?_
        refine va_get (D := (dC, dI)) (ci := 12) (v := .ref (a 44)) (C := RX12) (T := TX12) (N := 163) (fs := fM (vS a vi vj)) hx hb hts iwsRX12_readLinear_in12 hown hK hP 0 rfl rfl 69 (by decide) (hts _ hm_r_X12_readLinear_2) (fun _ h9 => h9) rfl dX12_readLinear_46 ?_
        refine lv_iload_n hx hb dX12_readLinear_49 rfl (lv_at hl 1 rfl) ?_
        refine va_iald (cA := k 44) (n := 120) (f := (vF 44)) hx hb hK hP 45 44 (WR_get 44 (by decide)) (TR_get 44 (by decide)) (vp_in_nI (show dN < 120 by omega) (by omega)) dX12_readLinear_50 ?_
        refine lv_topi (fun y3 hy3 => ?_)
        obtain rfl : ((vF 44) dN) = y3 := (hy3.trans (by rw [nI_clamp (by omega)])).symm
        refine lv_bipush (v := 42) hx hb dX12_readLinear_51 (by decide) ?_
        refine W.cut (pc := 63) (fun H locs ls stk => ∃ (kz : Int32), (∃ k, kz = nI k ∧ 5 ≤ k ∧ k ≤ 8) ∧  stk = [.int kz, .ref h0, .int (nI dN), .ref (a 42)] ∧ va_P (dC, dI) vwCl (WR a k h0 vi vj vF vG) H ∧ va_D A (WR a k h0 vi vj vF vG) ∧ va_S A s.heap H locs ∧ lv_has ls 2 [(0, .ref h0), (1, .int (nI dN))]) (fun join2 => ?_) ?_
        · refine lv_icmp_ne (tgt := 61) hx hb dX12_readLinear_53 (by decide) (fun c_53 => ?_) (fun c_53 => ?_)
          · have t_53 : (((vF 44) dN)).toInt ≠ 42 := toI_ne c_53 rfl (by decide)
            refine lv_bipush (v := 8) hx hb dX12_readLinear_61 (by decide) ?_
            have hl : lv_has _ _ ([(0, .ref h0), (1, .int (nI dN))]) := lv_sub hl [0, 1] rfl
            exact join2 _ _ _ _ ⟨8, ⟨8, by decide, by decide, by decide⟩, rfl, hP, hD, hS, hl⟩
          · have t_53 : (((vF 44) dN)).toInt = 42 := toI_nne c_53 rfl (by decide)
            refine lv_bipush (v := 7) hx hb dX12_readLinear_56 (by decide) ?_
            refine lv_goto (tgt := 63) hx hb dX12_readLinear_58 (by decide) ?_
            have hl : lv_has _ _ ([(0, .ref h0), (1, .int (nI dN))]) := lv_sub hl [0, 1] rfl
            exact join2 _ _ _ _ ⟨7, ⟨7, by decide, by decide, by decide⟩, rfl, hP, hD, hS, hl⟩
        · rintro H locs ls stk ⟨kz, hkz0, rfl, hP, hD, hS, hl⟩
          obtain ⟨kk, hkz, hk5, hk8⟩ := hkz0
          refine lv_aload_n hx hb dX12_readLinear_63 rfl (lv_at hl 0 rfl) ?_
          refine va_get (D := (dC, dI)) (ci := 12) (v := .ref (a 42)) (C := RX12) (T := TX12) (N := 163) (fs := fM (vS a vi vj)) hx hb hts iwsRX12_readLinear_in12 hown hK hP 0 rfl rfl 67 (by decide) (hts _ hm_r_X12_readLinear_1) (fun _ h9 => h9) rfl dX12_readLinear_64 ?_
          refine lv_iload_n hx hb dX12_readLinear_67 rfl (lv_at hl 1 rfl) ?_
          refine va_iald (cA := k 42) (n := 120) (f := (vF 42)) hx hb hK hP 43 42 (WR_get 42 (by decide)) (TR_get 42 (by decide)) (vp_in_nI (show dN < 120 by omega) (by omega)) dX12_readLinear_68 ?_
          refine lv_topi (fun y4 hy4 => ?_)
          obtain rfl : ((vF 42) dN) = y4 := (hy4.trans (by rw [nI_clamp (by omega)])).symm
          refine lv_topi (fun y5 hy5 => ?_)
          obtain rfl : (nI cO) = y5 := (hy5.trans (hcO)).symm
          refine lv_aload_n hx hb dX12_readLinear_69 rfl (lv_at hl 0 rfl) ?_
          refine va_get (D := (dC, dI)) (ci := 12) (v := .int (vi 76)) (C := RX12) (T := TX12) (N := 163) (fs := fM (vS a vi vj)) hx hb hts iwsRX12_readLinear_in12 hown hK hP 0 rfl rfl 76 (by decide) (hts _ hm_r_X12_readLinear_3) (fun _ h9 => h9) rfl dX12_readLinear_70 ?_
          refine lv_topi (fun y6 hy6 => ?_)
          obtain rfl : (nI cR) = y6 := (hy6.trans (hres)).symm
          refine lv_iconst (v := 0) hx hb dX12_readLinear_73 (by decide) ?_
          refine lv_aload_n hx hb dX12_readLinear_74 rfl (lv_at hl 0 rfl) ?_
          refine va_get (D := (dC, dI)) (ci := 12) (v := .ref (a 46)) (C := RX12) (T := TX12) (N := 163) (fs := fM (vS a vi vj)) hx hb hts iwsRX12_readLinear_in12 hown hK hP 0 rfl rfl 71 (by decide) (hts _ hm_r_X12_readLinear_4) (fun _ h9 => h9) rfl dX12_readLinear_75 ?_
          refine lv_iload_n hx hb dX12_readLinear_78 rfl (lv_at hl 1 rfl) ?_
          refine va_iald (cA := k 46) (n := 120) (f := (vF 46)) hx hb hK hP 47 46 (WR_get 46 (by decide)) (TR_get 46 (by decide)) (vp_in_nI (show dN < 120 by omega) (by omega)) dX12_readLinear_79 ?_
          refine lv_topi (fun y7 hy7 => ?_)
          obtain rfl : ((vF 46) dN) = y7 := (hy7.trans (by rw [nI_clamp (by omega)])).symm
          have hFc := allFree hD hS hA
          refine va_calli (va_runV (As := [.int kz, .int (nI cO), .int (nI cR), .int 0, .int ((vF 46) dN)]) (rest := [.int (nI dN), .ref (a 42)]) ⟨hx, hb, hml, hown, hts⟩ (r_X12_node l dC dI a k h0 vi vj vF vG nd kz (nI cO) (nI cR) 0 ((vF 46) dN) hnd (by first | with_reducible assumption | decide | omega | rfl | assumption) H.size) (cwV 5 hts gwsRX12_readLinear_0 rfl rfl rfl hd_yX12_node_RX12 (by decide +kernel)) (fz_pre (va_recv hK hP (ci := 12) (q0 := 0) rfl rfl) hP hK hD) rfl rfl hl.1 rfl (lv_room (Nat.le_of_ble_eq_true rfl)) dX12_readLinear_80 (by decide +kernel)) hS (fun q _ h => hFc q h) hFc (fun r80 u t9_ H locs ht hvm hw9 hB9 hz1 hk1 hS => ?_)
          have hP : va_P (dC, dI) vwCl (WR a k h0 (fT vi 52 (nI (nd + 1))) vj (fT (fT (fT (fT (fT (fT (fT vF 29 (upd (vF 29) (nI nd).toNatClampNeg kz)) 30 (upd (vF 30) (nI nd).toNatClampNeg (nI cO))) 31 (upd (vF 31) (nI nd).toNatClampNeg (nI cR))) 32 (upd (vF 32) (nI nd).toNatClampNeg 0)) 33 (upd (vF 33) (nI nd).toNatClampNeg ((vF 46) dN))) 34 (upd (vF 34) (nI nd).toNatClampNeg 0)) 35 (upd (vF 35) (nI nd).toNatClampNeg 0)) vG) H := fz_P ht hB9.1
          have hD := fz_sd hP (hB9.2.weaken (fun _ q _ h => hFc q.1 h)) rfl
          obtain rfl := hw9
          have hl : lv_has _ _ ([(0, .ref h0), (1, .int (nI dN))]) := lv_sub hl [0, 1] rfl
          exact join1 _ _ _ _ ⟨nd, (gG.add nd (gG.wt cO + gG.wt cR + 3) (50 - 2 * (cw + xe)) 0), (nd + 1), (upd (vF 29) (nI nd).toNatClampNeg kz), (upd (vF 30) (nI nd).toNatClampNeg (nI cO)), (upd (vF 31) (nI nd).toNatClampNeg (nI cR)), (upd (vF 32) (nI nd).toNatClampNeg 0), (upd (vF 33) (nI nd).toNatClampNeg ((vF 46) dN)), (upd (vF 34) (nI nd).toNatClampNeg 0), (upd (vF 35) (nI nd).toNatClampNeg 0), (hK0.mkPair (cv := 0) (by omega) hkz ⟨hk5, hk8⟩ rfl rfl hcL (hcR.mono (show 49 - 2 * (cw + xe) ≤ 49 - 2 * (cw + xe) by omega)) (by omega) (show 50 - 2 * (cw + xe) ≤ 50 - 2 * (cw + xe) by omega) (by omega)).1, (hK0.mkPair (cv := 0) (by omega) hkz ⟨hk5, hk8⟩ rfl rfl hcL (hcR.mono (show 49 - 2 * (cw + xe) ≤ 49 - 2 * (cw + xe) by omega)) (by omega) (show 50 - 2 * (cw + xe) ≤ 50 - 2 * (cw + xe) by omega) (by omega)).2, by show nd + 1 + pe + qa ≤ fn ∧ gG.vN + 1 + un ≤ nd + 1; omega, rfl, hP, hD, hS, hl⟩
      · have t_34 : (((vF 42) dN)).toInt = -1 := toI_nne c_34 rfl (by decide)
        refine lv_aload_n hx hb dX12_readLinear_37 rfl (lv_at hl 0 rfl) ?_
        refine va_get (D := (dC, dI)) (ci := 12) (v := .int (vi 76)) (C := RX12) (T := TX12) (N := 163) (fs := fM (vS a vi vj)) hx hb hts iwsRX12_readLinear_in12 hown hK hP 0 rfl rfl 76 (by decide) (hts _ hm_r_X12_readLinear_3) (fun _ h9 => h9) rfl dX12_readLinear_38 ?_
        refine lv_topi (fun y8 hy8 => ?_)
        obtain rfl : (nI cR) = y8 := (hy8.trans (hres)).symm
        refine lv_goto (tgt := 83) hx hb dX12_readLinear_41 (by decide) ?_
        have e9 : fT vi 52 (nI nd) = vi := by funext q9; by_cases h9_52 : q9 = 52; (subst h9_52; exact (fT_eq _ _ _).trans (Eq.trans (by first | with_reducible rfl | with_reducible assumption | (symm; with_reducible assumption) | rfl | assumption | (symm; assumption) | (subst_vars; rfl)) (Eq.refl _).symm)); exact (fT_ne _ _ h9_52).trans (Eq.refl _).symm
        have hP := wr_Pi e9 hP
        have hD := wr_Di e9 hD
        clear e9
        have e9 : fT (fT (fT (fT (fT (fT (fT vF 29 (vF 29)) 30 (vF 30)) 31 (vF 31)) 32 (vF 32)) 33 (vF 33)) 34 (vF 34)) 35 (vF 35) = vF := ch_E vF [] [(35, 0), (34, 0), (33, 0), (32, 0), (31, 0), (30, 0), (29, 0)] [] [] trivial (by decide +kernel)
        have hP := wr_PF e9 hP
        have hD := wr_DF e9 hD
        clear e9
        have hl : lv_has _ _ ([(0, .ref h0), (1, .int (nI dN))]) := lv_sub hl [0, 1] rfl
        exact join1 _ _ _ _ ⟨cR, gG, nd, (vF 29), (vF 30), (vF 31), (vF 32), (vF 33), (vF 34), (vF 35), hK0, hcR.mono (by omega), by (have hqb : qb = 0 := by (rcases hO2 with h9 | ⟨_, cO, h8, h9⟩); (exact h9.2); (exact absurd (h8.symm.trans c_34) (nIm1 (hRV.lt h9.1)))); omega, rfl, hP, hD, hS, hl⟩
    · rintro H locs ls stk ⟨c3, G3, nd3, a29, a30, a31, a32, a33, a34, a35, hK3, hL3, hn3, rfl, hP, hD, hS, hl⟩
      refine va_iast (cA := k 42) (n := 120) (f := (vF 42)) hx hb hK hP hD hS 43 42 (WR_get 42 (by decide)) (TR_get 42 (by decide)) (vp_in_nI (show dN < 120 by omega) (by omega)) dX12_readLinear_83 (fun H locs hP hD hS => ?_)
      have hP : va_P (dC, dI) vwCl (WR a k h0 (fT vi 52 (nI nd3)) vj (fT (fT (fT (fT (fT (fT (fT (fT vF 29 a29) 30 a30) 31 a31) 32 a32) 33 a33) 34 a34) 35 a35) 42 (upd (vF 42) ((nI dN)).toNatClampNeg (nI c3))) vG) H := fz_w (WR_F 42 (by decide) _ rfl) hP
      have hD : va_D A (WR a k h0 (fT vi 52 (nI nd3)) vj (fT (fT (fT (fT (fT (fT (fT (fT vF 29 a29) 30 a30) 31 a31) 32 a32) 33 a33) 34 a34) 35 a35) 42 (upd (vF 42) ((nI dN)).toNatClampNeg (nI c3))) vG) := fz_wD (WR_F 42 (by decide) _ rfl) hD
      refine lv_aload_n hx hb dX12_readLinear_84 rfl (lv_at hl 0 rfl) ?_
      refine lv_bipush (v := 42) hx hb dX12_readLinear_85 (by decide) ?_
      have hFc := allFree hD hS hA
      refine va_calli (va_runV (As := [.int 42]) (rest := []) ⟨hx, hb, hml, hown, hts⟩ (r_X12_isSign l dC dI a k h0 (fT vi 52 (nI nd3)) vj (fT (fT (fT (fT (fT (fT (fT (fT vF 29 a29) 30 a30) 31 a31) 32 a32) 33 a33) 34 a34) 35 a35) 42 (upd (vF 42) ((nI dN)).toNatClampNeg (nI c3))) vG 42 H.size) (cwV 1 hts gwsRX12_readLinear_1 rfl rfl rfl hd_yX12_isSign_RX12 (by decide +kernel)) (fz_pre (va_recv hK hP (ci := 12) (q0 := 0) rfl rfl) hP hK hD) rfl rfl hl.1 rfl (lv_room (Nat.le_of_ble_eq_true rfl)) dX12_readLinear_87 (by decide +kernel)) hS (fun q _ h => hFc q h) hFc (fun r87 u t9_ H locs ht hvm hw9 hB9 hz1 hk1 hS => ?_)
      have hP : va_P (dC, dI) vwCl (WR a k h0 (fT vi 52 (nI nd3)) vj (fT (fT (fT (fT (fT (fT (fT (fT vF 29 a29) 30 a30) 31 a31) 32 a32) 33 a33) 34 a34) 35 a35) 42 (upd (vF 42) ((nI dN)).toNatClampNeg (nI c3))) vG) H := fz_P ht hB9.1
      have hD := fz_sd hP (hB9.2.weaken (fun _ q _ h => hFc q.1 h)) rfl
      rcases hw9 with ⟨rfl, f87_0, f87_1⟩ | ⟨rfl, f87_0⟩
      · have f87_0 : (vi 18).toInt = 4 := f87_0
        have f87_1 : (vi 20) = 42 := f87_1
        refine lv_if_ne (tgt := 102) hx hb dX12_readLinear_90 (by decide) (fun _ => ?_) (fun c9 => absurd c9 (by decide))
        have hfl : fn < an := hLx.2.2.1.resolve_left (fun h => by first | (rw [h] at f87_0; exact absurd f87_0 (by decide)) | (rw [h] at f96_0; exact absurd f96_0 (by decide)))
        refine lv_aload_n hx hb dX12_readLinear_102 rfl (lv_at hl 0 rfl) ?_
        refine va_get (D := (dC, dI)) (ci := 12) (v := .ref (a 44)) (C := RX12) (T := TX12) (N := 163) (fs := fM (vS a (fT vi 52 (nI nd3)) vj)) hx hb hts iwsRX12_readLinear_in12 hown hK hP 0 rfl rfl 69 (by decide) (hts _ hm_r_X12_readLinear_2) (fun _ h9 => h9) rfl dX12_readLinear_103 ?_
        refine lv_iload_n hx hb dX12_readLinear_106 rfl (lv_at hl 1 rfl) ?_
        refine lv_aload_n hx hb dX12_readLinear_107 rfl (lv_at hl 0 rfl) ?_
        refine va_get (D := (dC, dI)) (ci := 12) (v := .int (vi 20)) (C := RX12) (T := TX12) (N := 163) (fs := fM (vS a (fT vi 52 (nI nd3)) vj)) hx hb hts iwsRX12_readLinear_in12 hown hK hP 0 rfl rfl 20 (by decide) (hts _ hm_r_X12_readLinear_5) (fun _ h9 => h9) rfl dX12_readLinear_108 ?_
        refine va_iast (cA := k 44) (n := 120) (f := (vF 44)) hx hb hK hP hD hS 45 44 (WR_get 44 (by decide)) (TR_get 44 (by decide)) (vp_in_nI (show dN < 120 by omega) (by omega)) dX12_readLinear_111 (fun H locs hP hD hS => ?_)
        have hP : va_P (dC, dI) vwCl (WR a k h0 (fT vi 52 (nI nd3)) vj (fT (fT (fT (fT (fT (fT (fT (fT (fT vF 29 a29) 30 a30) 31 a31) 32 a32) 33 a33) 34 a34) 35 a35) 42 (upd (vF 42) ((nI dN)).toNatClampNeg (nI c3))) 44 (upd (vF 44) ((nI dN)).toNatClampNeg (vi 20))) vG) H := fz_w (WR_F 44 (by decide) _ rfl) hP
        have hD : va_D A (WR a k h0 (fT vi 52 (nI nd3)) vj (fT (fT (fT (fT (fT (fT (fT (fT (fT vF 29 a29) 30 a30) 31 a31) 32 a32) 33 a33) 34 a34) 35 a35) 42 (upd (vF 42) ((nI dN)).toNatClampNeg (nI c3))) 44 (upd (vF 44) ((nI dN)).toNatClampNeg (vi 20))) vG) := fz_wD (WR_F 44 (by decide) _ rfl) hD
        refine lv_aload_n hx hb dX12_readLinear_112 rfl (lv_at hl 0 rfl) ?_
        refine va_get (D := (dC, dI)) (ci := 12) (v := .ref (a 46)) (C := RX12) (T := TX12) (N := 163) (fs := fM (vS a (fT vi 52 (nI nd3)) vj)) hx hb hts iwsRX12_readLinear_in12 hown hK hP 0 rfl rfl 71 (by decide) (hts _ hm_r_X12_readLinear_4) (fun _ h9 => h9) rfl dX12_readLinear_113 ?_
        refine lv_iload_n hx hb dX12_readLinear_116 rfl (lv_at hl 1 rfl) ?_
        refine lv_aload_n hx hb dX12_readLinear_117 rfl (lv_at hl 0 rfl) ?_
        refine va_get (D := (dC, dI)) (ci := 12) (v := .int (vi 19)) (C := RX12) (T := TX12) (N := 163) (fs := fM (vS a (fT vi 52 (nI nd3)) vj)) hx hb hts iwsRX12_readLinear_in12 hown hK hP 0 rfl rfl 19 (by decide) (hts _ hm_r_X12_readLinear_6) (fun _ h9 => h9) rfl dX12_readLinear_118 ?_
        refine lv_topi (fun y9 hy9 => ?_)
        obtain rfl : (nI fn) = y9 := (hy9.trans (hfr)).symm
        refine va_iast (cA := k 46) (n := 120) (f := (vF 46)) hx hb hK hP hD hS 47 46 (WR_get 46 (by decide)) (TR_get 46 (by decide)) (vp_in_nI (show dN < 120 by omega) (by omega)) dX12_readLinear_121 (fun H locs hP hD hS => ?_)
        have hP : va_P (dC, dI) vwCl (WR a k h0 (fT vi 52 (nI nd3)) vj (fT (fT (fT (fT (fT (fT (fT (fT (fT (fT vF 29 a29) 30 a30) 31 a31) 32 a32) 33 a33) 34 a34) 35 a35) 42 (upd (vF 42) ((nI dN)).toNatClampNeg (nI c3))) 44 (upd (vF 44) ((nI dN)).toNatClampNeg (vi 20))) 46 (upd (vF 46) ((nI dN)).toNatClampNeg (nI fn))) vG) H := fz_w (WR_F 46 (by decide) _ rfl) hP
        have hD : va_D A (WR a k h0 (fT vi 52 (nI nd3)) vj (fT (fT (fT (fT (fT (fT (fT (fT (fT (fT vF 29 a29) 30 a30) 31 a31) 32 a32) 33 a33) 34 a34) 35 a35) 42 (upd (vF 42) ((nI dN)).toNatClampNeg (nI c3))) 44 (upd (vF 44) ((nI dN)).toNatClampNeg (vi 20))) 46 (upd (vF 46) ((nI dN)).toNatClampNeg (nI fn))) vG) := fz_wD (WR_F 46 (by decide) _ rfl) hD
        refine lv_aload_n hx hb dX12_readLinear_122 rfl (lv_at hl 0 rfl) ?_
        have hFc := allFree hD hS hA
        refine va_callv (va_runV (As := []) (rest := []) ⟨hx, hb, hml, hown, hts⟩ (r_X12_next l dC dI a k h0 (fT vi 52 (nI nd3)) vj (fT (fT (fT (fT (fT (fT (fT (fT (fT (fT vF 29 a29) 30 a30) 31 a31) 32 a32) 33 a33) 34 a34) 35 a35) 42 (upd (vF 42) ((nI dN)).toNatClampNeg (nI c3))) 44 (upd (vF 44) ((nI dN)).toNatClampNeg (vi 20))) 46 (upd (vF 46) ((nI dN)).toNatClampNeg (nI fn))) vG tp an hTp (by first | with_reducible assumption | decide | omega | rfl | assumption) ha0 (by first | with_reducible assumption | decide | omega | rfl | assumption) H.size) (cwV 0 hts gwsRX12_readLinear_2 rfl rfl rfl hd_yX12_next_RX12 (by decide +kernel)) (fz_preE (va_recv hK hP (ci := 12) (q0 := 0) rfl rfl) hP hK hD (fun a U g mk qE => qE.same rfl) (fun U hU9 hW => by rw [hU9]; exact (((hE : StrA A s s.heap).kept hS.2.1).narrow (fun q h => hFc q h)).warm hW)) rfl rfl hl.1 rfl (lv_room (Nat.le_of_ble_eq_true rfl)) dX12_readLinear_123 (by decide +kernel)) hS (fun q _ h => hFc q h) hFc (fun u t9_ H locs ht hvm hw9 hB9 hz1 hk1 hS => ?_)
        revert u hw9 hB9
        refine fz_p4 ?_
        intro a2123 f2123 sg123 wd123 hw9 hB9
        try dsimp only at hw9 hB9
        have hP : va_P (dC, dI) vwCl (WR a k h0 (fT (fT (fT (fT (fT vi 52 (nI nd3)) 17 (nI a2123)) 19 (nI f2123)) 20 sg123) 18 wd123) vj (fT (fT (fT (fT (fT (fT (fT (fT (fT (fT vF 29 a29) 30 a30) 31 a31) 32 a32) 33 a33) 34 a34) 35 a35) 42 (upd (vF 42) ((nI dN)).toNatClampNeg (nI c3))) 44 (upd (vF 44) ((nI dN)).toNatClampNeg (vi 20))) 46 (upd (vF 46) ((nI dN)).toNatClampNeg (nI fn))) vG) H := fz_P ht hB9.1
        have hD := fz_sd hP (hB9.2.weaken (fun _ q _ h => hFc q.1 h)) rfl
        revert hw9
        refine fz_a2 ?_
        intro f123_0 f123_1
        have hl1 := f123_0.1
        have hl2 := f123_0.2.1
        refine lv_aload_n hx hb dX12_readLinear_126 rfl (lv_at hl 0 rfl) ?_
        refine lv_iconst (v := 1) hx hb dX12_readLinear_127 (by decide) ?_
        have hFc := allFree hD hS hA
        refine va_callv (va_runV (As := [.int 1]) (rest := []) ⟨hx, hb, hml, hown, hts⟩ (r_X12_begin1 l dC dI a k h0 (fT (fT (fT (fT (fT vi 52 (nI nd3)) 17 (nI a2123)) 19 (nI f2123)) 20 sg123) 18 wd123) vj (fT (fT (fT (fT (fT (fT (fT (fT (fT (fT vF 29 a29) 30 a30) 31 a31) 32 a32) 33 a33) 34 a34) 35 a35) 42 (upd (vF 42) ((nI dN)).toNatClampNeg (nI c3))) 44 (upd (vF 44) ((nI dN)).toNatClampNeg (vi 20))) 46 (upd (vF 46) ((nI dN)).toNatClampNeg (nI fn))) vG 1 tp a2123 f2123 nm se pa va bd (dN + 1) wi hTp (by first | with_reducible assumption | decide | omega | rfl | assumption) rfl rfl (f123_0) (by first | with_reducible assumption | decide | omega | rfl | assumption) hnm (by first | with_reducible assumption | decide | omega | rfl | assumption) (by first | with_reducible assumption | decide | omega | rfl | assumption) (by first | with_reducible assumption | decide | omega | rfl | assumption) hbd (by first | with_reducible assumption | decide | omega | rfl | assumption) (by first | with_reducible assumption | decide | omega | rfl | assumption) (hdp) (by first | with_reducible assumption | decide | omega | rfl | assumption) hwi (by first | with_reducible assumption | decide | omega | rfl | assumption) H.size) (cwV 1 hts gwsRX12_readLinear_3 rfl rfl rfl hd_yX12_begin1_RX12 (by decide +kernel)) (fz_pre (va_recv hK hP (ci := 12) (q0 := 0) rfl rfl) hP hK hD) rfl rfl hl.1 rfl (lv_room (Nat.le_of_ble_eq_true rfl)) dX12_readLinear_128 (by decide +kernel)) hS (fun q _ h => hFc q h) hFc (fun u t9_ H locs ht hvm hw9 hB9 hz1 hk1 hS => ?_)
        revert u hw9 hB9
        refine fz_p10 ?_
        intro s2128 p2128 g39128 g40128 g41128 g42128 g47128 g48128 d2128 w2128 hw9 hB9
        try dsimp only at hw9 hB9
        have e9F : fT (fT (fT (fT (fT (fT (fT (fT (fT (fT (fT (fT (fT (fT (fT vF 29 a29) 30 a30) 31 a31) 32 a32) 33 a33) 34 a34) 35 a35) 42 g42128) 44 (upd (vF 44) ((nI dN)).toNatClampNeg (vi 20))) 46 (upd (vF 46) ((nI dN)).toNatClampNeg (nI fn))) 39 g39128) 40 g40128) 41 g41128) 47 g47128) 48 g48128 = fT (fT (fT (fT (fT (fT (fT (fT (fT (fT (fT (fT (fT (fT (fT (fT vF 29 a29) 30 a30) 31 a31) 32 a32) 33 a33) 34 a34) 35 a35) 42 (upd (vF 42) ((nI dN)).toNatClampNeg (nI c3))) 44 (upd (vF 44) ((nI dN)).toNatClampNeg (vi 20))) 46 (upd (vF 46) ((nI dN)).toNatClampNeg (nI fn))) 39 g39128) 40 g40128) 41 g41128) 42 g42128) 47 g47128) 48 g48128 := ch_E vF [a29, a30, a31, a32, a33, a34, a35, g42128, upd (vF 44) ((nI dN)).toNatClampNeg (vi 20), upd (vF 46) ((nI dN)).toNatClampNeg (nI fn), g39128, g40128, g41128, g47128, g48128, upd (vF 42) ((nI dN)).toNatClampNeg (nI c3)] [(48, 15), (47, 14), (41, 13), (40, 12), (39, 11), (46, 10), (44, 9), (42, 8), (35, 7), (34, 6), (33, 5), (32, 4), (31, 3), (30, 2), (29, 1)] [(48, 15), (47, 14), (42, 8), (41, 13), (40, 12), (39, 11), (46, 10), (44, 9), (42, 16), (35, 7), (34, 6), (33, 5), (32, 4), (31, 3), (30, 2), (29, 1)] [] trivial (by decide +kernel)
        have hP := wr_PF e9F (fz_P ht hB9.1)
        have hD := wr_DF e9F (hB9.2.weaken (fun _ q _ h => hFc q.1 h))
        clear e9F
        revert hw9
        refine fz_a4 ?_
        intro f128_0 f128_1 f128_2 f128_3
        have f128_1 : 0 < (s2128).toInt ∨ (s2128 = (vi 21) ∧ BgO 1 wd123 sg123 g39128 g40128 g41128 g42128 g48128 (dN + 1) wi d2128 w2128) := f128_1
        have f128_2 : FrmO (dN + 1) (vF 39) (vF 40) (vF 41) (upd (vF 42) ((nI dN)).toNatClampNeg (nI c3)) (vF 48) g39128 g40128 g41128 g42128 g48128 := f128_2
        refine W.widen (k := 0) (n := 0) (by decide +kernel) (by decide +kernel) ?_
        have e9 : fT (fT (fT (fT (fT (fT (fT (fT (fT (fT (fT vi 52 (nI nd3)) 17 (nI a2123)) 19 (nI f2123)) 20 sg123) 18 wd123) 75 (nI w2128)) 74 (nI d2128)) 21 s2128) 22 p2128) 76 (vi 76)) 77 (vi 77) = fT (fT (fT (fT (fT (fT (fT (fT (fT vi 52 (nI nd3)) 17 (nI a2123)) 19 (nI f2123)) 20 sg123) 18 wd123) 75 (nI w2128)) 74 (nI d2128)) 21 s2128) 22 p2128 := ch_E vi [nI nd3, nI a2123, nI f2123, sg123, wd123, nI w2128, nI d2128, s2128, p2128] [(77, 0), (76, 0), (22, 9), (21, 8), (74, 7), (75, 6), (18, 5), (20, 4), (19, 3), (17, 2), (52, 1)] [(22, 9), (21, 8), (74, 7), (75, 6), (18, 5), (20, 4), (19, 3), (17, 2), (52, 1)] [] trivial (by decide +kernel)
        have hP := wr_Pi e9 hP
        have hD := wr_Di e9 hD
        clear e9
        have e9 : fT (fT (fT (fT (fT (fT (fT (fT (fT (fT (fT (fT (fT (fT (fT (fT (fT vF 29 a29) 30 a30) 31 a31) 32 a32) 33 a33) 34 a34) 35 a35) 42 g42128) 44 (upd (vF 44) ((nI dN)).toNatClampNeg (vi 20))) 46 (upd (vF 46) ((nI dN)).toNatClampNeg (nI fn))) 39 g39128) 40 g40128) 41 g41128) 47 g47128) 48 g48128) 43 (vF 43)) 45 (vF 45) = fT (fT (fT (fT (fT (fT (fT (fT (fT (fT (fT (fT (fT (fT (fT vF 29 a29) 30 a30) 31 a31) 32 a32) 33 a33) 34 a34) 35 a35) 42 g42128) 44 (upd (vF 44) ((nI dN)).toNatClampNeg (vi 20))) 46 (upd (vF 46) ((nI dN)).toNatClampNeg (nI fn))) 39 g39128) 40 g40128) 41 g41128) 47 g47128) 48 g48128 := ch_E vF [a29, a30, a31, a32, a33, a34, a35, g42128, upd (vF 44) ((nI dN)).toNatClampNeg (vi 20), upd (vF 46) ((nI dN)).toNatClampNeg (nI fn), g39128, g40128, g41128, g47128, g48128] [(45, 0), (43, 0), (48, 15), (47, 14), (41, 13), (40, 12), (39, 11), (46, 10), (44, 9), (42, 8), (35, 7), (34, 6), (33, 5), (32, 4), (31, 3), (30, 2), (29, 1)] [(48, 15), (47, 14), (41, 13), (40, 12), (39, 11), (46, 10), (44, 9), (42, 8), (35, 7), (34, 6), (33, 5), (32, 4), (31, 3), (30, 2), (29, 1)] [] trivial (by decide +kernel)
        have hP := wr_PF e9 hP
        have hD := wr_DF e9 hD
        clear e9
        exact W.vret hx hb hr (fun t9_ ht hW => ⟨⟨(a2123, f2123, sg123, wd123, s2128, p2128, a29, a30, a31, a32, a33, a34, a35, g39128, g40128, g41128, g42128, (vF 43), (upd (vF 44) ((nI dN)).toNatClampNeg (vi 20)), (vF 45), (upd (vF 46) ((nI dN)).toNatClampNeg (nI fn)), g47128, g48128, d2128, w2128, nd3, (vi 76), (vi 77), G3), rfl, by (try dsimp only); exact ⟨f123_0, by omega, f128_0, by rcases f128_1 with h9 | h9; (exact Or.inl h9); (exact Or.inr ⟨RdS.push (gm := gl) hK3.1 hBel hK3.2.1 (Nat.le_refl _) (fun q hq => ⟨rfl, rfl, rfl, by rw [upd_at (by omega), if_neg (by omega)], rfl⟩) h39 (by decide) h48 (by omega) ⟨⟨by omega, fun _ => by omega, fun h8 => absurd h8 (by decide), Nat.le_refl _⟩, Or.inl ⟨rfl, rfl, hq0, rfl, rfl, qa, 1, hK3.2.1.opL hO1, Or.inr ⟨rfl, c3, by rw [upd_at (by omega), if_pos rfl], hL3⟩, rfl⟩⟩ f128_2 (by rw [← hwc]; exact h9.2) (show (1 : Int32) = nI 1 by decide) (by decide) (by omega) (by omega) (by omega) (by omega) hK3.2.2.2 (by show 10 * (4000 - _) + dN + 1 + 1 ≤ mM - 1; omega), hK3.2.1.less (Nat.zero_le _)⟩), by omega⟩, by rw [ht]; exact hP, hD⟩, hS.F ht⟩) hS.2.2 dX12_readLinear_131
      · have f87_0 : ¬ ((vi 18).toInt = 4 ∧ (vi 20) = 42) := f87_0
        refine lv_if_ne (tgt := 102) hx hb dX12_readLinear_90 (by decide) (fun c9 => absurd c9 (by decide)) (fun _ => ?_)
        refine lv_aload_n hx hb dX12_readLinear_93 rfl (lv_at hl 0 rfl) ?_
        refine lv_bipush (v := 47) hx hb dX12_readLinear_94 (by decide) ?_
        have hFc := allFree hD hS hA
        refine va_calli (va_runV (As := [.int 47]) (rest := []) ⟨hx, hb, hml, hown, hts⟩ (r_X12_isSign l dC dI a k h0 (fT vi 52 (nI nd3)) vj (fT (fT (fT (fT (fT (fT (fT (fT vF 29 a29) 30 a30) 31 a31) 32 a32) 33 a33) 34 a34) 35 a35) 42 (upd (vF 42) ((nI dN)).toNatClampNeg (nI c3))) vG 47 H.size) (cwV 1 hts gwsRX12_readLinear_1 rfl rfl rfl hd_yX12_isSign_RX12 (by decide +kernel)) (fz_pre (va_recv hK hP (ci := 12) (q0 := 0) rfl rfl) hP hK hD) rfl rfl hl.1 rfl (lv_room (Nat.le_of_ble_eq_true rfl)) dX12_readLinear_96 (by decide +kernel)) hS (fun q _ h => hFc q h) hFc (fun r96 u t9_ H locs ht hvm hw9 hB9 hz1 hk1 hS => ?_)
        have hP : va_P (dC, dI) vwCl (WR a k h0 (fT vi 52 (nI nd3)) vj (fT (fT (fT (fT (fT (fT (fT (fT vF 29 a29) 30 a30) 31 a31) 32 a32) 33 a33) 34 a34) 35 a35) 42 (upd (vF 42) ((nI dN)).toNatClampNeg (nI c3))) vG) H := fz_P ht hB9.1
        have hD := fz_sd hP (hB9.2.weaken (fun _ q _ h => hFc q.1 h)) rfl
        rcases hw9 with ⟨rfl, f96_0, f96_1⟩ | ⟨rfl, f96_0⟩
        · have f96_0 : (vi 18).toInt = 4 := f96_0
          have f96_1 : (vi 20) = 47 := f96_1
          refine lv_if_eq (tgt := 132) hx hb dX12_readLinear_99 (by decide) (fun c9 => absurd c9 (by decide)) (fun _ => ?_)
          have hfl : fn < an := hLx.2.2.1.resolve_left (fun h => by first | (rw [h] at f87_0; exact absurd f87_0 (by decide)) | (rw [h] at f96_0; exact absurd f96_0 (by decide)))
          refine lv_aload_n hx hb dX12_readLinear_102 rfl (lv_at hl 0 rfl) ?_
          refine va_get (D := (dC, dI)) (ci := 12) (v := .ref (a 44)) (C := RX12) (T := TX12) (N := 163) (fs := fM (vS a (fT vi 52 (nI nd3)) vj)) hx hb hts iwsRX12_readLinear_in12 hown hK hP 0 rfl rfl 69 (by decide) (hts _ hm_r_X12_readLinear_2) (fun _ h9 => h9) rfl dX12_readLinear_103 ?_
          refine lv_iload_n hx hb dX12_readLinear_106 rfl (lv_at hl 1 rfl) ?_
          refine lv_aload_n hx hb dX12_readLinear_107 rfl (lv_at hl 0 rfl) ?_
          refine va_get (D := (dC, dI)) (ci := 12) (v := .int (vi 20)) (C := RX12) (T := TX12) (N := 163) (fs := fM (vS a (fT vi 52 (nI nd3)) vj)) hx hb hts iwsRX12_readLinear_in12 hown hK hP 0 rfl rfl 20 (by decide) (hts _ hm_r_X12_readLinear_5) (fun _ h9 => h9) rfl dX12_readLinear_108 ?_
          refine va_iast (cA := k 44) (n := 120) (f := (vF 44)) hx hb hK hP hD hS 45 44 (WR_get 44 (by decide)) (TR_get 44 (by decide)) (vp_in_nI (show dN < 120 by omega) (by omega)) dX12_readLinear_111 (fun H locs hP hD hS => ?_)
          have hP : va_P (dC, dI) vwCl (WR a k h0 (fT vi 52 (nI nd3)) vj (fT (fT (fT (fT (fT (fT (fT (fT (fT vF 29 a29) 30 a30) 31 a31) 32 a32) 33 a33) 34 a34) 35 a35) 42 (upd (vF 42) ((nI dN)).toNatClampNeg (nI c3))) 44 (upd (vF 44) ((nI dN)).toNatClampNeg (vi 20))) vG) H := fz_w (WR_F 44 (by decide) _ rfl) hP
          have hD : va_D A (WR a k h0 (fT vi 52 (nI nd3)) vj (fT (fT (fT (fT (fT (fT (fT (fT (fT vF 29 a29) 30 a30) 31 a31) 32 a32) 33 a33) 34 a34) 35 a35) 42 (upd (vF 42) ((nI dN)).toNatClampNeg (nI c3))) 44 (upd (vF 44) ((nI dN)).toNatClampNeg (vi 20))) vG) := fz_wD (WR_F 44 (by decide) _ rfl) hD
          refine lv_aload_n hx hb dX12_readLinear_112 rfl (lv_at hl 0 rfl) ?_
          refine va_get (D := (dC, dI)) (ci := 12) (v := .ref (a 46)) (C := RX12) (T := TX12) (N := 163) (fs := fM (vS a (fT vi 52 (nI nd3)) vj)) hx hb hts iwsRX12_readLinear_in12 hown hK hP 0 rfl rfl 71 (by decide) (hts _ hm_r_X12_readLinear_4) (fun _ h9 => h9) rfl dX12_readLinear_113 ?_
          refine lv_iload_n hx hb dX12_readLinear_116 rfl (lv_at hl 1 rfl) ?_
          refine lv_aload_n hx hb dX12_readLinear_117 rfl (lv_at hl 0 rfl) ?_
          refine va_get (D := (dC, dI)) (ci := 12) (v := .int (vi 19)) (C := RX12) (T := TX12) (N := 163) (fs := fM (vS a (fT vi 52 (nI nd3)) vj)) hx hb hts iwsRX12_readLinear_in12 hown hK hP 0 rfl rfl 19 (by decide) (hts _ hm_r_X12_readLinear_6) (fun _ h9 => h9) rfl dX12_readLinear_118 ?_
          refine lv_topi (fun y10 hy10 => ?_)
          obtain rfl : (nI fn) = y10 := (hy10.trans (hfr)).symm
          refine va_iast (cA := k 46) (n := 120) (f := (vF 46)) hx hb hK hP hD hS 47 46 (WR_get 46 (by decide)) (TR_get 46 (by decide)) (vp_in_nI (show dN < 120 by omega) (by omega)) dX12_readLinear_121 (fun H locs hP hD hS => ?_)
          have hP : va_P (dC, dI) vwCl (WR a k h0 (fT vi 52 (nI nd3)) vj (fT (fT (fT (fT (fT (fT (fT (fT (fT (fT vF 29 a29) 30 a30) 31 a31) 32 a32) 33 a33) 34 a34) 35 a35) 42 (upd (vF 42) ((nI dN)).toNatClampNeg (nI c3))) 44 (upd (vF 44) ((nI dN)).toNatClampNeg (vi 20))) 46 (upd (vF 46) ((nI dN)).toNatClampNeg (nI fn))) vG) H := fz_w (WR_F 46 (by decide) _ rfl) hP
          have hD : va_D A (WR a k h0 (fT vi 52 (nI nd3)) vj (fT (fT (fT (fT (fT (fT (fT (fT (fT (fT vF 29 a29) 30 a30) 31 a31) 32 a32) 33 a33) 34 a34) 35 a35) 42 (upd (vF 42) ((nI dN)).toNatClampNeg (nI c3))) 44 (upd (vF 44) ((nI dN)).toNatClampNeg (vi 20))) 46 (upd (vF 46) ((nI dN)).toNatClampNeg (nI fn))) vG) := fz_wD (WR_F 46 (by decide) _ rfl) hD
          refine lv_aload_n hx hb dX12_readLinear_122 rfl (lv_at hl 0 rfl) ?_
          have hFc := allFree hD hS hA
          refine va_callv (va_runV (As := []) (rest := []) ⟨hx, hb, hml, hown, hts⟩ (r_X12_next l dC dI a k h0 (fT vi 52 (nI nd3)) vj (fT (fT (fT (fT (fT (fT (fT (fT (fT (fT vF 29 a29) 30 a30) 31 a31) 32 a32) 33 a33) 34 a34) 35 a35) 42 (upd (vF 42) ((nI dN)).toNatClampNeg (nI c3))) 44 (upd (vF 44) ((nI dN)).toNatClampNeg (vi 20))) 46 (upd (vF 46) ((nI dN)).toNatClampNeg (nI fn))) vG tp an hTp (by first | with_reducible assumption | decide | omega | rfl | assumption) ha0 (by first | with_reducible assumption | decide | omega | rfl | assumption) H.size) (cwV 0 hts gwsRX12_readLinear_2 rfl rfl rfl hd_yX12_next_RX12 (by decide +kernel)) (fz_preE (va_recv hK hP (ci := 12) (q0 := 0) rfl rfl) hP hK hD (fun a U g mk qE => qE.same rfl) (fun U hU9 hW => by rw [hU9]; exact (((hE : StrA A s s.heap).kept hS.2.1).narrow (fun q h => hFc q h)).warm hW)) rfl rfl hl.1 rfl (lv_room (Nat.le_of_ble_eq_true rfl)) dX12_readLinear_123 (by decide +kernel)) hS (fun q _ h => hFc q h) hFc (fun u t9_ H locs ht hvm hw9 hB9 hz1 hk1 hS => ?_)
          revert u hw9 hB9
          refine fz_p4 ?_
          intro a2123_1 f2123_1 sg123_1 wd123_1 hw9 hB9
          try dsimp only at hw9 hB9
          have hP : va_P (dC, dI) vwCl (WR a k h0 (fT (fT (fT (fT (fT vi 52 (nI nd3)) 17 (nI a2123_1)) 19 (nI f2123_1)) 20 sg123_1) 18 wd123_1) vj (fT (fT (fT (fT (fT (fT (fT (fT (fT (fT vF 29 a29) 30 a30) 31 a31) 32 a32) 33 a33) 34 a34) 35 a35) 42 (upd (vF 42) ((nI dN)).toNatClampNeg (nI c3))) 44 (upd (vF 44) ((nI dN)).toNatClampNeg (vi 20))) 46 (upd (vF 46) ((nI dN)).toNatClampNeg (nI fn))) vG) H := fz_P ht hB9.1
          have hD := fz_sd hP (hB9.2.weaken (fun _ q _ h => hFc q.1 h)) rfl
          revert hw9
          refine fz_a2 ?_
          intro f123_1_0 f123_1_1
          have hl1 := f123_1_0.1
          have hl2 := f123_1_0.2.1
          refine lv_aload_n hx hb dX12_readLinear_126 rfl (lv_at hl 0 rfl) ?_
          refine lv_iconst (v := 1) hx hb dX12_readLinear_127 (by decide) ?_
          have hFc := allFree hD hS hA
          refine va_callv (va_runV (As := [.int 1]) (rest := []) ⟨hx, hb, hml, hown, hts⟩ (r_X12_begin1 l dC dI a k h0 (fT (fT (fT (fT (fT vi 52 (nI nd3)) 17 (nI a2123_1)) 19 (nI f2123_1)) 20 sg123_1) 18 wd123_1) vj (fT (fT (fT (fT (fT (fT (fT (fT (fT (fT vF 29 a29) 30 a30) 31 a31) 32 a32) 33 a33) 34 a34) 35 a35) 42 (upd (vF 42) ((nI dN)).toNatClampNeg (nI c3))) 44 (upd (vF 44) ((nI dN)).toNatClampNeg (vi 20))) 46 (upd (vF 46) ((nI dN)).toNatClampNeg (nI fn))) vG 1 tp a2123_1 f2123_1 nm se pa va bd (dN + 1) wi hTp (by first | with_reducible assumption | decide | omega | rfl | assumption) rfl rfl (f123_1_0) (by first | with_reducible assumption | decide | omega | rfl | assumption) hnm (by first | with_reducible assumption | decide | omega | rfl | assumption) (by first | with_reducible assumption | decide | omega | rfl | assumption) (by first | with_reducible assumption | decide | omega | rfl | assumption) hbd (by first | with_reducible assumption | decide | omega | rfl | assumption) (by first | with_reducible assumption | decide | omega | rfl | assumption) (hdp) (by first | with_reducible assumption | decide | omega | rfl | assumption) hwi (by first | with_reducible assumption | decide | omega | rfl | assumption) H.size) (cwV 1 hts gwsRX12_readLinear_3 rfl rfl rfl hd_yX12_begin1_RX12 (by decide +kernel)) (fz_pre (va_recv hK hP (ci := 12) (q0 := 0) rfl rfl) hP hK hD) rfl rfl hl.1 rfl (lv_room (Nat.le_of_ble_eq_true rfl)) dX12_readLinear_128 (by decide +kernel)) hS (fun q _ h => hFc q h) hFc (fun u t9_ H locs ht hvm hw9 hB9 hz1 hk1 hS => ?_)
          revert u hw9 hB9
          refine fz_p10 ?_
          intro s2128_1 p2128_1 g39128_1 g40128_1 g41128_1 g42128_1 g47128_1 g48128_1 d2128_1 w2128_1 hw9 hB9
          try dsimp only at hw9 hB9
          have e9F : fT (fT (fT (fT (fT (fT (fT (fT (fT (fT (fT (fT (fT (fT (fT vF 29 a29) 30 a30) 31 a31) 32 a32) 33 a33) 34 a34) 35 a35) 42 g42128_1) 44 (upd (vF 44) ((nI dN)).toNatClampNeg (vi 20))) 46 (upd (vF 46) ((nI dN)).toNatClampNeg (nI fn))) 39 g39128_1) 40 g40128_1) 41 g41128_1) 47 g47128_1) 48 g48128_1 = fT (fT (fT (fT (fT (fT (fT (fT (fT (fT (fT (fT (fT (fT (fT (fT vF 29 a29) 30 a30) 31 a31) 32 a32) 33 a33) 34 a34) 35 a35) 42 (upd (vF 42) ((nI dN)).toNatClampNeg (nI c3))) 44 (upd (vF 44) ((nI dN)).toNatClampNeg (vi 20))) 46 (upd (vF 46) ((nI dN)).toNatClampNeg (nI fn))) 39 g39128_1) 40 g40128_1) 41 g41128_1) 42 g42128_1) 47 g47128_1) 48 g48128_1 := ch_E vF [a29, a30, a31, a32, a33, a34, a35, g42128_1, upd (vF 44) ((nI dN)).toNatClampNeg (vi 20), upd (vF 46) ((nI dN)).toNatClampNeg (nI fn), g39128_1, g40128_1, g41128_1, g47128_1, g48128_1, upd (vF 42) ((nI dN)).toNatClampNeg (nI c3)] [(48, 15), (47, 14), (41, 13), (40, 12), (39, 11), (46, 10), (44, 9), (42, 8), (35, 7), (34, 6), (33, 5), (32, 4), (31, 3), (30, 2), (29, 1)] [(48, 15), (47, 14), (42, 8), (41, 13), (40, 12), (39, 11), (46, 10), (44, 9), (42, 16), (35, 7), (34, 6), (33, 5), (32, 4), (31, 3), (30, 2), (29, 1)] [] trivial (by decide +kernel)
          have hP := wr_PF e9F (fz_P ht hB9.1)
          have hD := wr_DF e9F (hB9.2.weaken (fun _ q _ h => hFc q.1 h))
          clear e9F
          revert hw9
          refine fz_a4 ?_
          intro f128_1_0 f128_1_1 f128_1_2 f128_1_3
          have f128_1_1 : 0 < (s2128_1).toInt ∨ (s2128_1 = (vi 21) ∧ BgO 1 wd123_1 sg123_1 g39128_1 g40128_1 g41128_1 g42128_1 g48128_1 (dN + 1) wi d2128_1 w2128_1) := f128_1_1
          have f128_1_2 : FrmO (dN + 1) (vF 39) (vF 40) (vF 41) (upd (vF 42) ((nI dN)).toNatClampNeg (nI c3)) (vF 48) g39128_1 g40128_1 g41128_1 g42128_1 g48128_1 := f128_1_2
          refine W.widen (k := 0) (n := 0) (by decide +kernel) (by decide +kernel) ?_
          have e9 : fT (fT (fT (fT (fT (fT (fT (fT (fT (fT (fT vi 52 (nI nd3)) 17 (nI a2123_1)) 19 (nI f2123_1)) 20 sg123_1) 18 wd123_1) 75 (nI w2128_1)) 74 (nI d2128_1)) 21 s2128_1) 22 p2128_1) 76 (vi 76)) 77 (vi 77) = fT (fT (fT (fT (fT (fT (fT (fT (fT vi 52 (nI nd3)) 17 (nI a2123_1)) 19 (nI f2123_1)) 20 sg123_1) 18 wd123_1) 75 (nI w2128_1)) 74 (nI d2128_1)) 21 s2128_1) 22 p2128_1 := ch_E vi [nI nd3, nI a2123_1, nI f2123_1, sg123_1, wd123_1, nI w2128_1, nI d2128_1, s2128_1, p2128_1] [(77, 0), (76, 0), (22, 9), (21, 8), (74, 7), (75, 6), (18, 5), (20, 4), (19, 3), (17, 2), (52, 1)] [(22, 9), (21, 8), (74, 7), (75, 6), (18, 5), (20, 4), (19, 3), (17, 2), (52, 1)] [] trivial (by decide +kernel)
          have hP := wr_Pi e9 hP
          have hD := wr_Di e9 hD
          clear e9
          have e9 : fT (fT (fT (fT (fT (fT (fT (fT (fT (fT (fT (fT (fT (fT (fT (fT (fT vF 29 a29) 30 a30) 31 a31) 32 a32) 33 a33) 34 a34) 35 a35) 42 g42128_1) 44 (upd (vF 44) ((nI dN)).toNatClampNeg (vi 20))) 46 (upd (vF 46) ((nI dN)).toNatClampNeg (nI fn))) 39 g39128_1) 40 g40128_1) 41 g41128_1) 47 g47128_1) 48 g48128_1) 43 (vF 43)) 45 (vF 45) = fT (fT (fT (fT (fT (fT (fT (fT (fT (fT (fT (fT (fT (fT (fT vF 29 a29) 30 a30) 31 a31) 32 a32) 33 a33) 34 a34) 35 a35) 42 g42128_1) 44 (upd (vF 44) ((nI dN)).toNatClampNeg (vi 20))) 46 (upd (vF 46) ((nI dN)).toNatClampNeg (nI fn))) 39 g39128_1) 40 g40128_1) 41 g41128_1) 47 g47128_1) 48 g48128_1 := ch_E vF [a29, a30, a31, a32, a33, a34, a35, g42128_1, upd (vF 44) ((nI dN)).toNatClampNeg (vi 20), upd (vF 46) ((nI dN)).toNatClampNeg (nI fn), g39128_1, g40128_1, g41128_1, g47128_1, g48128_1] [(45, 0), (43, 0), (48, 15), (47, 14), (41, 13), (40, 12), (39, 11), (46, 10), (44, 9), (42, 8), (35, 7), (34, 6), (33, 5), (32, 4), (31, 3), (30, 2), (29, 1)] [(48, 15), (47, 14), (41, 13), (40, 12), (39, 11), (46, 10), (44, 9), (42, 8), (35, 7), (34, 6), (33, 5), (32, 4), (31, 3), (30, 2), (29, 1)] [] trivial (by decide +kernel)
          have hP := wr_PF e9 hP
          have hD := wr_DF e9 hD
          clear e9
          exact W.vret hx hb hr (fun t9_ ht hW => ⟨⟨(a2123_1, f2123_1, sg123_1, wd123_1, s2128_1, p2128_1, a29, a30, a31, a32, a33, a34, a35, g39128_1, g40128_1, g41128_1, g42128_1, (vF 43), (upd (vF 44) ((nI dN)).toNatClampNeg (vi 20)), (vF 45), (upd (vF 46) ((nI dN)).toNatClampNeg (nI fn)), g47128_1, g48128_1, d2128_1, w2128_1, nd3, (vi 76), (vi 77), G3), rfl, by (try dsimp only); exact ⟨f123_1_0, by omega, f128_1_0, by rcases f128_1_1 with h9 | h9; (exact Or.inl h9); (exact Or.inr ⟨RdS.push (gm := gl) hK3.1 hBel hK3.2.1 (Nat.le_refl _) (fun q hq => ⟨rfl, rfl, rfl, by rw [upd_at (by omega), if_neg (by omega)], rfl⟩) h39 (by decide) h48 (by omega) ⟨⟨by omega, fun _ => by omega, fun h8 => absurd h8 (by decide), Nat.le_refl _⟩, Or.inl ⟨rfl, rfl, hq0, rfl, rfl, qa, 1, hK3.2.1.opL hO1, Or.inr ⟨rfl, c3, by rw [upd_at (by omega), if_pos rfl], hL3⟩, rfl⟩⟩ f128_1_2 (by rw [← hwc]; exact h9.2) (show (1 : Int32) = nI 1 by decide) (by decide) (by omega) (by omega) (by omega) (by omega) hK3.2.2.2 (by show 10 * (4000 - _) + dN + 1 + 1 ≤ mM - 1; omega), hK3.2.1.less (Nat.zero_le _)⟩), by omega⟩, by rw [ht]; exact hP, hD⟩, hS.F ht⟩) hS.2.2 dX12_readLinear_131
        · have f96_0 : ¬ ((vi 18).toInt = 4 ∧ (vi 20) = 47) := f96_0
          refine lv_if_eq (tgt := 132) hx hb dX12_readLinear_99 (by decide) (fun _ => ?_) (fun c9 => absurd (by decide) c9)
          refine lv_aload_n hx hb dX12_readLinear_132 rfl (lv_at hl 0 rfl) ?_
          refine va_get (D := (dC, dI)) (ci := 12) (v := .ref (a 41)) (C := RX12) (T := TX12) (N := 163) (fs := fM (vS a (fT vi 52 (nI nd3)) vj)) hx hb hts iwsRX12_readLinear_in12 hown hK hP 0 rfl rfl 66 (by decide) (hts _ hm_r_X12_readLinear_7) (fun _ h9 => h9) rfl dX12_readLinear_133 ?_
          refine lv_iload_n hx hb dX12_readLinear_136 rfl (lv_at hl 1 rfl) ?_
          refine lv_aload_n hx hb dX12_readLinear_137 rfl (lv_at hl 0 rfl) ?_
          refine va_get (D := (dC, dI)) (ci := 12) (v := .ref (a 41)) (C := RX12) (T := TX12) (N := 163) (fs := fM (vS a (fT vi 52 (nI nd3)) vj)) hx hb hts iwsRX12_readLinear_in12 hown hK hP 0 rfl rfl 66 (by decide) (hts _ hm_r_X12_readLinear_7) (fun _ h9 => h9) rfl dX12_readLinear_138 ?_
          refine lv_iload_n hx hb dX12_readLinear_141 rfl (lv_at hl 1 rfl) ?_
          refine va_iald (cA := k 41) (n := 120) (f := (vF 41)) hx hb hK hP 42 41 (WR_get 41 (by decide)) (TR_get 41 (by decide)) (vp_in_nI (show dN < 120 by omega) (by omega)) dX12_readLinear_142 ?_
          refine lv_topi (fun y11 hy11 => ?_)
          obtain rfl : ((vF 41) dN) = y11 := (hy11.trans (by rw [nI_clamp (by omega)])).symm
          refine lv_iconst (v := (-1)) hx hb dX12_readLinear_143 (by decide) ?_
          refine W.cut (pc := 196) (fun H locs ls stk => ∃ (c1 : Nat) (G4 : RG) (nd4 : Nat) (b29 : Nat → Int32) (b30 : Nat → Int32) (b31 : Nat → Int32) (b32 : Nat → Int32) (b33 : Nat → Int32) (b34 : Nat → Int32) (b35 : Nat → Int32), (RdK tT gG (vF 29) (vF 30) (vF 31) (vF 32) (vF 36) (vF 37) (vF 38) G4 b29 b30 b31 b32 (vF 36) (vF 37) (vF 38) se nd4 bs gl) ∧ (LinO G4 b29 c1 (51 - 2 * (cw + xe))) ∧ (nd4 + pe ≤ fn ∧ G4.vN + un ≤ nd4) ∧  stk = [.int (nI c1), .int (nI dN), .ref (a 41)] ∧ va_P (dC, dI) vwCl (WR a k h0 (fT vi 52 (nI nd4)) vj (fT (fT (fT (fT (fT (fT (fT (fT vF 29 b29) 30 b30) 31 b31) 32 b32) 33 b33) 34 b34) 35 b35) 42 (upd (vF 42) ((nI dN)).toNatClampNeg (nI c3))) vG) H ∧ va_D A (WR a k h0 (fT vi 52 (nI nd4)) vj (fT (fT (fT (fT (fT (fT (fT (fT vF 29 b29) 30 b30) 31 b31) 32 b32) 33 b33) 34 b34) 35 b35) 42 (upd (vF 42) ((nI dN)).toNatClampNeg (nI c3))) vG) ∧ va_S A s.heap H locs ∧ lv_has ls 2 [(0, .ref h0), (1, .int (nI dN))]) (fun join3 => ?_) ?_
          · refine lv_icmp_ne (tgt := 156) hx hb dX12_readLinear_144 (by decide) (fun c_144 => ?_) (fun c_144 => ?_)
            · have t_144 : (((vF 41) dN)).toInt ≠ -1 := toI_ne c_144 rfl (by decide)
              obtain ⟨ha1, cP, hcP, hcPL⟩ := hO1.resolve_left (fun h => c_144 h.1)
              refine lv_aload_n hx hb dX12_readLinear_156 rfl (lv_at hl 0 rfl) ?_
              refine lv_aload_n hx hb dX12_readLinear_157 rfl (lv_at hl 0 rfl) ?_
              refine va_get (D := (dC, dI)) (ci := 12) (v := .ref (a 43)) (C := RX12) (T := TX12) (N := 163) (fs := fM (vS a (fT vi 52 (nI nd3)) vj)) hx hb hts iwsRX12_readLinear_in12 hown hK hP 0 rfl rfl 68 (by decide) (hts _ hm_r_X12_readLinear_8) (fun _ h9 => h9) rfl dX12_readLinear_158 ?_
              refine lv_iload_n hx hb dX12_readLinear_161 rfl (lv_at hl 1 rfl) ?_
              refine va_iald (cA := k 43) (n := 120) (f := (vF 43)) hx hb hK hP 44 43 (WR_get 43 (by decide)) (TR_get 43 (by decide)) (vp_in_nI (show dN < 120 by omega) (by omega)) dX12_readLinear_162 ?_
              refine lv_topi (fun y12 hy12 => ?_)
              obtain rfl : ((vF 43) dN) = y12 := (hy12.trans (by rw [nI_clamp (by omega)])).symm
              refine lv_bipush (v := 43) hx hb dX12_readLinear_163 (by decide) ?_
              refine W.cut (pc := 174) (fun H locs ls stk => ∃ (kz : Int32), (∃ k, kz = nI k ∧ 5 ≤ k ∧ k ≤ 8) ∧  stk = [.int kz, .ref h0, .int (nI dN), .ref (a 41)] ∧ va_P (dC, dI) vwCl (WR a k h0 (fT vi 52 (nI nd3)) vj (fT (fT (fT (fT (fT (fT (fT (fT vF 29 a29) 30 a30) 31 a31) 32 a32) 33 a33) 34 a34) 35 a35) 42 (upd (vF 42) ((nI dN)).toNatClampNeg (nI c3))) vG) H ∧ va_D A (WR a k h0 (fT vi 52 (nI nd3)) vj (fT (fT (fT (fT (fT (fT (fT (fT vF 29 a29) 30 a30) 31 a31) 32 a32) 33 a33) 34 a34) 35 a35) 42 (upd (vF 42) ((nI dN)).toNatClampNeg (nI c3))) vG) ∧ va_S A s.heap H locs ∧ lv_has ls 2 [(0, .ref h0), (1, .int (nI dN))]) (fun join4 => ?_) ?_
              · refine lv_icmp_ne (tgt := 172) hx hb dX12_readLinear_165 (by decide) (fun c_165 => ?_) (fun c_165 => ?_)
                · have t_165 : (((vF 43) dN)).toInt ≠ 43 := toI_ne c_165 rfl (by decide)
                  refine lv_bipush (v := 6) hx hb dX12_readLinear_172 (by decide) ?_
                  have hl : lv_has _ _ ([(0, .ref h0), (1, .int (nI dN))]) := lv_sub hl [0, 1] rfl
                  exact join4 _ _ _ _ ⟨6, ⟨6, by decide, by decide, by decide⟩, rfl, hP, hD, hS, hl⟩
                · have t_165 : (((vF 43) dN)).toInt = 43 := toI_nne c_165 rfl (by decide)
                  refine lv_iconst (v := 5) hx hb dX12_readLinear_168 (by decide) ?_
                  refine lv_goto (tgt := 174) hx hb dX12_readLinear_169 (by decide) ?_
                  have hl : lv_has _ _ ([(0, .ref h0), (1, .int (nI dN))]) := lv_sub hl [0, 1] rfl
                  exact join4 _ _ _ _ ⟨5, ⟨5, by decide, by decide, by decide⟩, rfl, hP, hD, hS, hl⟩
              · rintro H locs ls stk ⟨kz, hkz0, rfl, hP, hD, hS, hl⟩
                obtain ⟨kk, hkz, hk5, hk8⟩ := hkz0
                refine lv_aload_n hx hb dX12_readLinear_174 rfl (lv_at hl 0 rfl) ?_
                refine va_get (D := (dC, dI)) (ci := 12) (v := .ref (a 41)) (C := RX12) (T := TX12) (N := 163) (fs := fM (vS a (fT vi 52 (nI nd3)) vj)) hx hb hts iwsRX12_readLinear_in12 hown hK hP 0 rfl rfl 66 (by decide) (hts _ hm_r_X12_readLinear_7) (fun _ h9 => h9) rfl dX12_readLinear_175 ?_
                refine lv_iload_n hx hb dX12_readLinear_178 rfl (lv_at hl 1 rfl) ?_
                refine va_iald (cA := k 41) (n := 120) (f := (vF 41)) hx hb hK hP 42 41 (WR_get 41 (by decide)) (TR_get 41 (by decide)) (vp_in_nI (show dN < 120 by omega) (by omega)) dX12_readLinear_179 ?_
                refine lv_topi (fun y13 hy13 => ?_)
                obtain rfl : ((vF 41) dN) = y13 := (hy13.trans (by rw [nI_clamp (by omega)])).symm
                refine lv_topi (fun y14 hy14 => ?_)
                obtain rfl : (nI cP) = y14 := (hy14.trans (hcP)).symm
                refine lv_aload_n hx hb dX12_readLinear_180 rfl (lv_at hl 0 rfl) ?_
                refine va_get (D := (dC, dI)) (ci := 12) (v := .ref (a 42)) (C := RX12) (T := TX12) (N := 163) (fs := fM (vS a (fT vi 52 (nI nd3)) vj)) hx hb hts iwsRX12_readLinear_in12 hown hK hP 0 rfl rfl 67 (by decide) (hts _ hm_r_X12_readLinear_1) (fun _ h9 => h9) rfl dX12_readLinear_181 ?_
                refine lv_iload_n hx hb dX12_readLinear_184 rfl (lv_at hl 1 rfl) ?_
                refine va_iald (cA := k 42) (n := 120) (f := (upd (vF 42) ((nI dN)).toNatClampNeg (nI c3))) hx hb hK hP 43 42 (WR_get 42 (by decide)) (TR_get 42 (by decide)) (vp_in_nI (show dN < 120 by omega) (by omega)) dX12_readLinear_185 ?_
                refine lv_topi (fun y15 hy15 => ?_)
                obtain rfl : ((upd (vF 42) ((nI dN)).toNatClampNeg (nI c3)) dN) = y15 := (hy15.trans (by rw [nI_clamp (by omega)])).symm
                refine lv_topi (fun y16 hy16 => ?_)
                obtain rfl : (nI c3) = y16 := (hy16.trans (by rw [upd_at (by omega), if_pos rfl])).symm
                refine lv_iconst (v := 0) hx hb dX12_readLinear_186 (by decide) ?_
                refine lv_aload_n hx hb dX12_readLinear_187 rfl (lv_at hl 0 rfl) ?_
                refine va_get (D := (dC, dI)) (ci := 12) (v := .ref (a 45)) (C := RX12) (T := TX12) (N := 163) (fs := fM (vS a (fT vi 52 (nI nd3)) vj)) hx hb hts iwsRX12_readLinear_in12 hown hK hP 0 rfl rfl 70 (by decide) (hts _ hm_r_X12_readLinear_9) (fun _ h9 => h9) rfl dX12_readLinear_188 ?_
                refine lv_iload_n hx hb dX12_readLinear_191 rfl (lv_at hl 1 rfl) ?_
                refine va_iald (cA := k 45) (n := 120) (f := (vF 45)) hx hb hK hP 46 45 (WR_get 45 (by decide)) (TR_get 45 (by decide)) (vp_in_nI (show dN < 120 by omega) (by omega)) dX12_readLinear_192 ?_
                refine lv_topi (fun y17 hy17 => ?_)
                obtain rfl : ((vF 45) dN) = y17 := (hy17.trans (by rw [nI_clamp (by omega)])).symm
                have hFc := allFree hD hS hA
                refine va_calli (va_runV (As := [.int kz, .int (nI cP), .int (nI c3), .int 0, .int ((vF 45) dN)]) (rest := [.int (nI dN), .ref (a 41)]) ⟨hx, hb, hml, hown, hts⟩ (r_X12_node l dC dI a k h0 (fT vi 52 (nI nd3)) vj (fT (fT (fT (fT (fT (fT (fT (fT vF 29 a29) 30 a30) 31 a31) 32 a32) 33 a33) 34 a34) 35 a35) 42 (upd (vF 42) ((nI dN)).toNatClampNeg (nI c3))) vG nd3 kz (nI cP) (nI c3) 0 ((vF 45) dN) rfl (by first | with_reducible assumption | decide | omega | rfl | assumption) H.size) (cwV 5 hts gwsRX12_readLinear_0 rfl rfl rfl hd_yX12_node_RX12 (by decide +kernel)) (fz_pre (va_recv hK hP (ci := 12) (q0 := 0) rfl rfl) hP hK hD) rfl rfl hl.1 rfl (lv_room (Nat.le_of_ble_eq_true rfl)) dX12_readLinear_193 (by decide +kernel)) hS (fun q _ h => hFc q h) hFc (fun r193 u t9_ H locs ht hvm hw9 hB9 hz1 hk1 hS => ?_)
                have e9i : fT vi 52 (nI (nd3 + 1)) = fT (fT vi 52 (nI nd3)) 52 (nI (nd3 + 1)) := (fT_sm _ _ _ _).symm
                have e9F : fT (fT (fT (fT (fT (fT (fT (fT vF 29 (upd a29 (nI nd3).toNatClampNeg kz)) 30 (upd a30 (nI nd3).toNatClampNeg (nI cP))) 31 (upd a31 (nI nd3).toNatClampNeg (nI c3))) 32 (upd a32 (nI nd3).toNatClampNeg 0)) 33 (upd a33 (nI nd3).toNatClampNeg ((vF 45) dN))) 34 (upd a34 (nI nd3).toNatClampNeg 0)) 35 (upd a35 (nI nd3).toNatClampNeg 0)) 42 (upd (vF 42) ((nI dN)).toNatClampNeg (nI c3)) = fT (fT (fT (fT (fT (fT (fT (fT (fT (fT (fT (fT (fT (fT (fT vF 29 a29) 30 a30) 31 a31) 32 a32) 33 a33) 34 a34) 35 a35) 42 (upd (vF 42) ((nI dN)).toNatClampNeg (nI c3))) 29 (upd a29 (nI nd3).toNatClampNeg kz)) 30 (upd a30 (nI nd3).toNatClampNeg (nI cP))) 31 (upd a31 (nI nd3).toNatClampNeg (nI c3))) 32 (upd a32 (nI nd3).toNatClampNeg 0)) 33 (upd a33 (nI nd3).toNatClampNeg ((vF 45) dN))) 34 (upd a34 (nI nd3).toNatClampNeg 0)) 35 (upd a35 (nI nd3).toNatClampNeg 0) := ch_E vF [upd a29 (nI nd3).toNatClampNeg kz, upd a30 (nI nd3).toNatClampNeg (nI cP), upd a31 (nI nd3).toNatClampNeg (nI c3), upd a32 (nI nd3).toNatClampNeg 0, upd a33 (nI nd3).toNatClampNeg ((vF 45) dN), upd a34 (nI nd3).toNatClampNeg 0, upd a35 (nI nd3).toNatClampNeg 0, upd (vF 42) ((nI dN)).toNatClampNeg (nI c3), a29, a30, a31, a32, a33, a34, a35] [(42, 8), (35, 7), (34, 6), (33, 5), (32, 4), (31, 3), (30, 2), (29, 1)] [(35, 7), (34, 6), (33, 5), (32, 4), (31, 3), (30, 2), (29, 1), (42, 8), (35, 15), (34, 14), (33, 13), (32, 12), (31, 11), (30, 10), (29, 9)] [] trivial (by decide +kernel)
                have hP := wr_PF e9F (wr_Pi e9i (fz_P ht hB9.1))
                have hD := wr_DF e9F (wr_Di e9i (hB9.2.weaken (fun _ q _ h => hFc q.1 h)))
                clear e9i e9F
                obtain rfl := hw9
                have hl : lv_has _ _ ([(0, .ref h0), (1, .int (nI dN))]) := lv_sub hl [0, 1] rfl
                exact join3 _ _ _ _ ⟨nd3, (G3.add nd3 (G3.wt cP + G3.wt c3 + 3) (51 - 2 * (cw + xe)) 0), (nd3 + 1), (upd a29 (nI nd3).toNatClampNeg kz), (upd a30 (nI nd3).toNatClampNeg (nI cP)), (upd a31 (nI nd3).toNatClampNeg (nI c3)), (upd a32 (nI nd3).toNatClampNeg 0), (upd a33 (nI nd3).toNatClampNeg ((vF 45) dN)), (upd a34 (nI nd3).toNatClampNeg 0), (upd a35 (nI nd3).toNatClampNeg 0), (hK3.mkPair (cv := 0) (by omega) hkz ⟨hk5, hk8⟩ rfl rfl (hK3.2.1.lin hcPL) hL3 (by omega) (show 51 - 2 * (cw + xe) ≤ 51 - 2 * (cw + xe) by omega) (by omega)).1, (hK3.mkPair (cv := 0) (by omega) hkz ⟨hk5, hk8⟩ rfl rfl (hK3.2.1.lin hcPL) hL3 (by omega) (show 51 - 2 * (cw + xe) ≤ 51 - 2 * (cw + xe) by omega) (by omega)).2, by show nd3 + 1 + pe ≤ fn ∧ G3.vN + 1 + un ≤ nd3 + 1; omega, rfl, hP, hD, hS, hl⟩
            · have t_144 : (((vF 41) dN)).toInt = -1 := toI_nne c_144 rfl (by decide)
              refine lv_aload_n hx hb dX12_readLinear_147 rfl (lv_at hl 0 rfl) ?_
              refine va_get (D := (dC, dI)) (ci := 12) (v := .ref (a 42)) (C := RX12) (T := TX12) (N := 163) (fs := fM (vS a (fT vi 52 (nI nd3)) vj)) hx hb hts iwsRX12_readLinear_in12 hown hK hP 0 rfl rfl 67 (by decide) (hts _ hm_r_X12_readLinear_1) (fun _ h9 => h9) rfl dX12_readLinear_148 ?_
              refine lv_iload_n hx hb dX12_readLinear_151 rfl (lv_at hl 1 rfl) ?_
              refine va_iald (cA := k 42) (n := 120) (f := (upd (vF 42) ((nI dN)).toNatClampNeg (nI c3))) hx hb hK hP 43 42 (WR_get 42 (by decide)) (TR_get 42 (by decide)) (vp_in_nI (show dN < 120 by omega) (by omega)) dX12_readLinear_152 ?_
              refine lv_topi (fun y18 hy18 => ?_)
              obtain rfl : ((upd (vF 42) ((nI dN)).toNatClampNeg (nI c3)) dN) = y18 := (hy18.trans (by rw [nI_clamp (by omega)])).symm
              refine lv_topi (fun y19 hy19 => ?_)
              obtain rfl : (nI c3) = y19 := (hy19.trans (by rw [upd_at (by omega), if_pos rfl])).symm
              refine lv_goto (tgt := 196) hx hb dX12_readLinear_153 (by decide) ?_
              have hl : lv_has _ _ ([(0, .ref h0), (1, .int (nI dN))]) := lv_sub hl [0, 1] rfl
              exact join3 _ _ _ _ ⟨c3, G3, nd3, a29, a30, a31, a32, a33, a34, a35, hK3, hL3.mono (by omega), by omega, rfl, hP, hD, hS, hl⟩
          · rintro H locs ls stk ⟨c1, G4, nd4, b29, b30, b31, b32, b33, b34, b35, hK4, hL4, hn4, rfl, hP, hD, hS, hl⟩
            refine va_iast (cA := k 41) (n := 120) (f := (vF 41)) hx hb hK hP hD hS 42 41 (WR_get 41 (by decide)) (TR_get 41 (by decide)) (vp_in_nI (show dN < 120 by omega) (by omega)) dX12_readLinear_196 (fun H locs hP hD hS => ?_)
            have hP : va_P (dC, dI) vwCl (WR a k h0 (fT vi 52 (nI nd4)) vj (fT (fT (fT (fT (fT (fT (fT (fT (fT vF 29 b29) 30 b30) 31 b31) 32 b32) 33 b33) 34 b34) 35 b35) 42 (upd (vF 42) ((nI dN)).toNatClampNeg (nI c3))) 41 (upd (vF 41) ((nI dN)).toNatClampNeg (nI c1))) vG) H := fz_w (WR_F 41 (by decide) _ rfl) hP
            have hD : va_D A (WR a k h0 (fT vi 52 (nI nd4)) vj (fT (fT (fT (fT (fT (fT (fT (fT (fT vF 29 b29) 30 b30) 31 b31) 32 b32) 33 b33) 34 b34) 35 b35) 42 (upd (vF 42) ((nI dN)).toNatClampNeg (nI c3))) 41 (upd (vF 41) ((nI dN)).toNatClampNeg (nI c1))) vG) := fz_wD (WR_F 41 (by decide) _ rfl) hD
            refine lv_aload_n hx hb dX12_readLinear_197 rfl (lv_at hl 0 rfl) ?_
            refine va_get (D := (dC, dI)) (ci := 12) (v := .ref (a 42)) (C := RX12) (T := TX12) (N := 163) (fs := fM (vS a (fT vi 52 (nI nd4)) vj)) hx hb hts iwsRX12_readLinear_in12 hown hK hP 0 rfl rfl 67 (by decide) (hts _ hm_r_X12_readLinear_1) (fun _ h9 => h9) rfl dX12_readLinear_198 ?_
            refine lv_iload_n hx hb dX12_readLinear_201 rfl (lv_at hl 1 rfl) ?_
            refine lv_iconst (v := (-1)) hx hb dX12_readLinear_202 (by decide) ?_
            refine va_iast (cA := k 42) (n := 120) (f := (upd (vF 42) ((nI dN)).toNatClampNeg (nI c3))) hx hb hK hP hD hS 43 42 (WR_get 42 (by decide)) (TR_get 42 (by decide)) (vp_in_nI (show dN < 120 by omega) (by omega)) dX12_readLinear_203 (fun H locs hP hD hS => ?_)
            have e9 : fT (fT (fT (fT (fT (fT (fT (fT (fT vF 29 b29) 30 b30) 31 b31) 32 b32) 33 b33) 34 b34) 35 b35) 42 (upd (upd (vF 42) ((nI dN)).toNatClampNeg (nI c3)) ((nI dN)).toNatClampNeg (-1))) 41 (upd (vF 41) ((nI dN)).toNatClampNeg (nI c1)) = fT (fT (fT (fT (fT (fT (fT (fT (fT (fT vF 29 b29) 30 b30) 31 b31) 32 b32) 33 b33) 34 b34) 35 b35) 42 (upd (vF 42) ((nI dN)).toNatClampNeg (nI c3))) 41 (upd (vF 41) ((nI dN)).toNatClampNeg (nI c1))) 42 (upd (upd (vF 42) ((nI dN)).toNatClampNeg (nI c3)) ((nI dN)).toNatClampNeg (-1)) := ((fT_sw _ _ _ (Nat.ne_of_beq_eq_false rfl)).trans (congrArg (fun g9 => fT g9 41 (upd (vF 41) ((nI dN)).toNatClampNeg (nI c1))) (fT_sm _ _ _ _))).symm
            have hP := wr_PF e9 (fz_w (WR_F 42 (by decide) _ rfl) hP)
            have hD := wr_DF e9 (fz_wD (WR_F 42 (by decide) _ rfl) hD)
            clear e9
            refine lv_aload_n hx hb dX12_readLinear_204 rfl (lv_at hl 0 rfl) ?_
            refine lv_bipush (v := 43) hx hb dX12_readLinear_205 (by decide) ?_
            have hFc := allFree hD hS hA
            refine va_calli (va_runV (As := [.int 43]) (rest := []) ⟨hx, hb, hml, hown, hts⟩ (r_X12_isSign l dC dI a k h0 (fT vi 52 (nI nd4)) vj (fT (fT (fT (fT (fT (fT (fT (fT (fT vF 29 b29) 30 b30) 31 b31) 32 b32) 33 b33) 34 b34) 35 b35) 42 (upd (upd (vF 42) ((nI dN)).toNatClampNeg (nI c3)) ((nI dN)).toNatClampNeg (-1))) 41 (upd (vF 41) ((nI dN)).toNatClampNeg (nI c1))) vG 43 H.size) (cwV 1 hts gwsRX12_readLinear_1 rfl rfl rfl hd_yX12_isSign_RX12 (by decide +kernel)) (fz_pre (va_recv hK hP (ci := 12) (q0 := 0) rfl rfl) hP hK hD) rfl rfl hl.1 rfl (lv_room (Nat.le_of_ble_eq_true rfl)) dX12_readLinear_207 (by decide +kernel)) hS (fun q _ h => hFc q h) hFc (fun r207 u t9_ H locs ht hvm hw9 hB9 hz1 hk1 hS => ?_)
            have hP : va_P (dC, dI) vwCl (WR a k h0 (fT vi 52 (nI nd4)) vj (fT (fT (fT (fT (fT (fT (fT (fT (fT vF 29 b29) 30 b30) 31 b31) 32 b32) 33 b33) 34 b34) 35 b35) 42 (upd (upd (vF 42) ((nI dN)).toNatClampNeg (nI c3)) ((nI dN)).toNatClampNeg (-1))) 41 (upd (vF 41) ((nI dN)).toNatClampNeg (nI c1))) vG) H := fz_P ht hB9.1
            have hD := fz_sd hP (hB9.2.weaken (fun _ q _ h => hFc q.1 h)) rfl
            rcases hw9 with ⟨rfl, f207_0, f207_1⟩ | ⟨rfl, f207_0⟩
            · have f207_0 : (vi 18).toInt = 4 := f207_0
              have f207_1 : (vi 20) = 43 := f207_1
              refine lv_if_ne (tgt := 222) hx hb dX12_readLinear_210 (by decide) (fun _ => ?_) (fun c9 => absurd c9 (by decide))
              have hfl : fn < an := hLx.2.2.1.resolve_left (fun h => by first | (rw [h] at f207_0; exact absurd f207_0 (by decide)) | (rw [h] at f216_0; exact absurd f216_0 (by decide)))
              refine lv_aload_n hx hb dX12_readLinear_222 rfl (lv_at hl 0 rfl) ?_
              refine va_get (D := (dC, dI)) (ci := 12) (v := .ref (a 43)) (C := RX12) (T := TX12) (N := 163) (fs := fM (vS a (fT vi 52 (nI nd4)) vj)) hx hb hts iwsRX12_readLinear_in12 hown hK hP 0 rfl rfl 68 (by decide) (hts _ hm_r_X12_readLinear_8) (fun _ h9 => h9) rfl dX12_readLinear_223 ?_
              refine lv_iload_n hx hb dX12_readLinear_226 rfl (lv_at hl 1 rfl) ?_
              refine lv_aload_n hx hb dX12_readLinear_227 rfl (lv_at hl 0 rfl) ?_
              refine va_get (D := (dC, dI)) (ci := 12) (v := .int (vi 20)) (C := RX12) (T := TX12) (N := 163) (fs := fM (vS a (fT vi 52 (nI nd4)) vj)) hx hb hts iwsRX12_readLinear_in12 hown hK hP 0 rfl rfl 20 (by decide) (hts _ hm_r_X12_readLinear_5) (fun _ h9 => h9) rfl dX12_readLinear_228 ?_
              refine va_iast (cA := k 43) (n := 120) (f := (vF 43)) hx hb hK hP hD hS 44 43 (WR_get 43 (by decide)) (TR_get 43 (by decide)) (vp_in_nI (show dN < 120 by omega) (by omega)) dX12_readLinear_231 (fun H locs hP hD hS => ?_)
              have hP : va_P (dC, dI) vwCl (WR a k h0 (fT vi 52 (nI nd4)) vj (fT (fT (fT (fT (fT (fT (fT (fT (fT (fT vF 29 b29) 30 b30) 31 b31) 32 b32) 33 b33) 34 b34) 35 b35) 42 (upd (upd (vF 42) ((nI dN)).toNatClampNeg (nI c3)) ((nI dN)).toNatClampNeg (-1))) 41 (upd (vF 41) ((nI dN)).toNatClampNeg (nI c1))) 43 (upd (vF 43) ((nI dN)).toNatClampNeg (vi 20))) vG) H := fz_w (WR_F 43 (by decide) _ rfl) hP
              have hD : va_D A (WR a k h0 (fT vi 52 (nI nd4)) vj (fT (fT (fT (fT (fT (fT (fT (fT (fT (fT vF 29 b29) 30 b30) 31 b31) 32 b32) 33 b33) 34 b34) 35 b35) 42 (upd (upd (vF 42) ((nI dN)).toNatClampNeg (nI c3)) ((nI dN)).toNatClampNeg (-1))) 41 (upd (vF 41) ((nI dN)).toNatClampNeg (nI c1))) 43 (upd (vF 43) ((nI dN)).toNatClampNeg (vi 20))) vG) := fz_wD (WR_F 43 (by decide) _ rfl) hD
              refine lv_aload_n hx hb dX12_readLinear_232 rfl (lv_at hl 0 rfl) ?_
              refine va_get (D := (dC, dI)) (ci := 12) (v := .ref (a 45)) (C := RX12) (T := TX12) (N := 163) (fs := fM (vS a (fT vi 52 (nI nd4)) vj)) hx hb hts iwsRX12_readLinear_in12 hown hK hP 0 rfl rfl 70 (by decide) (hts _ hm_r_X12_readLinear_9) (fun _ h9 => h9) rfl dX12_readLinear_233 ?_
              refine lv_iload_n hx hb dX12_readLinear_236 rfl (lv_at hl 1 rfl) ?_
              refine lv_aload_n hx hb dX12_readLinear_237 rfl (lv_at hl 0 rfl) ?_
              refine va_get (D := (dC, dI)) (ci := 12) (v := .int (vi 19)) (C := RX12) (T := TX12) (N := 163) (fs := fM (vS a (fT vi 52 (nI nd4)) vj)) hx hb hts iwsRX12_readLinear_in12 hown hK hP 0 rfl rfl 19 (by decide) (hts _ hm_r_X12_readLinear_6) (fun _ h9 => h9) rfl dX12_readLinear_238 ?_
              refine lv_topi (fun y20 hy20 => ?_)
              obtain rfl : (nI fn) = y20 := (hy20.trans (hfr)).symm
              refine va_iast (cA := k 45) (n := 120) (f := (vF 45)) hx hb hK hP hD hS 46 45 (WR_get 45 (by decide)) (TR_get 45 (by decide)) (vp_in_nI (show dN < 120 by omega) (by omega)) dX12_readLinear_241 (fun H locs hP hD hS => ?_)
              have hP : va_P (dC, dI) vwCl (WR a k h0 (fT vi 52 (nI nd4)) vj (fT (fT (fT (fT (fT (fT (fT (fT (fT (fT (fT vF 29 b29) 30 b30) 31 b31) 32 b32) 33 b33) 34 b34) 35 b35) 42 (upd (upd (vF 42) ((nI dN)).toNatClampNeg (nI c3)) ((nI dN)).toNatClampNeg (-1))) 41 (upd (vF 41) ((nI dN)).toNatClampNeg (nI c1))) 43 (upd (vF 43) ((nI dN)).toNatClampNeg (vi 20))) 45 (upd (vF 45) ((nI dN)).toNatClampNeg (nI fn))) vG) H := fz_w (WR_F 45 (by decide) _ rfl) hP
              have hD : va_D A (WR a k h0 (fT vi 52 (nI nd4)) vj (fT (fT (fT (fT (fT (fT (fT (fT (fT (fT (fT vF 29 b29) 30 b30) 31 b31) 32 b32) 33 b33) 34 b34) 35 b35) 42 (upd (upd (vF 42) ((nI dN)).toNatClampNeg (nI c3)) ((nI dN)).toNatClampNeg (-1))) 41 (upd (vF 41) ((nI dN)).toNatClampNeg (nI c1))) 43 (upd (vF 43) ((nI dN)).toNatClampNeg (vi 20))) 45 (upd (vF 45) ((nI dN)).toNatClampNeg (nI fn))) vG) := fz_wD (WR_F 45 (by decide) _ rfl) hD
              refine lv_aload_n hx hb dX12_readLinear_242 rfl (lv_at hl 0 rfl) ?_
              have hFc := allFree hD hS hA
              refine va_callv (va_runV (As := []) (rest := []) ⟨hx, hb, hml, hown, hts⟩ (r_X12_next l dC dI a k h0 (fT vi 52 (nI nd4)) vj (fT (fT (fT (fT (fT (fT (fT (fT (fT (fT (fT vF 29 b29) 30 b30) 31 b31) 32 b32) 33 b33) 34 b34) 35 b35) 42 (upd (upd (vF 42) ((nI dN)).toNatClampNeg (nI c3)) ((nI dN)).toNatClampNeg (-1))) 41 (upd (vF 41) ((nI dN)).toNatClampNeg (nI c1))) 43 (upd (vF 43) ((nI dN)).toNatClampNeg (vi 20))) 45 (upd (vF 45) ((nI dN)).toNatClampNeg (nI fn))) vG tp an hTp (by first | with_reducible assumption | decide | omega | rfl | assumption) ha0 (by first | with_reducible assumption | decide | omega | rfl | assumption) H.size) (cwV 0 hts gwsRX12_readLinear_2 rfl rfl rfl hd_yX12_next_RX12 (by decide +kernel)) (fz_preE (va_recv hK hP (ci := 12) (q0 := 0) rfl rfl) hP hK hD (fun a U g mk qE => qE.same rfl) (fun U hU9 hW => by rw [hU9]; exact (((hE : StrA A s s.heap).kept hS.2.1).narrow (fun q h => hFc q h)).warm hW)) rfl rfl hl.1 rfl (lv_room (Nat.le_of_ble_eq_true rfl)) dX12_readLinear_243 (by decide +kernel)) hS (fun q _ h => hFc q h) hFc (fun u t9_ H locs ht hvm hw9 hB9 hz1 hk1 hS => ?_)
              revert u hw9 hB9
              refine fz_p4 ?_
              intro a2243 f2243 sg243 wd243 hw9 hB9
              try dsimp only at hw9 hB9
              have hP : va_P (dC, dI) vwCl (WR a k h0 (fT (fT (fT (fT (fT vi 52 (nI nd4)) 17 (nI a2243)) 19 (nI f2243)) 20 sg243) 18 wd243) vj (fT (fT (fT (fT (fT (fT (fT (fT (fT (fT (fT vF 29 b29) 30 b30) 31 b31) 32 b32) 33 b33) 34 b34) 35 b35) 42 (upd (upd (vF 42) ((nI dN)).toNatClampNeg (nI c3)) ((nI dN)).toNatClampNeg (-1))) 41 (upd (vF 41) ((nI dN)).toNatClampNeg (nI c1))) 43 (upd (vF 43) ((nI dN)).toNatClampNeg (vi 20))) 45 (upd (vF 45) ((nI dN)).toNatClampNeg (nI fn))) vG) H := fz_P ht hB9.1
              have hD := fz_sd hP (hB9.2.weaken (fun _ q _ h => hFc q.1 h)) rfl
              revert hw9
              refine fz_a2 ?_
              intro f243_0 f243_1
              have hl1 := f243_0.1
              have hl2 := f243_0.2.1
              refine lv_aload_n hx hb dX12_readLinear_246 rfl (lv_at hl 0 rfl) ?_
              refine lv_iconst (v := 1) hx hb dX12_readLinear_247 (by decide) ?_
              have hFc := allFree hD hS hA
              refine va_callv (va_runV (As := [.int 1]) (rest := []) ⟨hx, hb, hml, hown, hts⟩ (r_X12_begin1 l dC dI a k h0 (fT (fT (fT (fT (fT vi 52 (nI nd4)) 17 (nI a2243)) 19 (nI f2243)) 20 sg243) 18 wd243) vj (fT (fT (fT (fT (fT (fT (fT (fT (fT (fT (fT vF 29 b29) 30 b30) 31 b31) 32 b32) 33 b33) 34 b34) 35 b35) 42 (upd (upd (vF 42) ((nI dN)).toNatClampNeg (nI c3)) ((nI dN)).toNatClampNeg (-1))) 41 (upd (vF 41) ((nI dN)).toNatClampNeg (nI c1))) 43 (upd (vF 43) ((nI dN)).toNatClampNeg (vi 20))) 45 (upd (vF 45) ((nI dN)).toNatClampNeg (nI fn))) vG 1 tp a2243 f2243 nm se pa va bd (dN + 1) wi hTp (by first | with_reducible assumption | decide | omega | rfl | assumption) rfl rfl (f243_0) (by first | with_reducible assumption | decide | omega | rfl | assumption) hnm (by first | with_reducible assumption | decide | omega | rfl | assumption) (by first | with_reducible assumption | decide | omega | rfl | assumption) (by first | with_reducible assumption | decide | omega | rfl | assumption) hbd (by first | with_reducible assumption | decide | omega | rfl | assumption) (by first | with_reducible assumption | decide | omega | rfl | assumption) (hdp) (by first | with_reducible assumption | decide | omega | rfl | assumption) hwi (by first | with_reducible assumption | decide | omega | rfl | assumption) H.size) (cwV 1 hts gwsRX12_readLinear_3 rfl rfl rfl hd_yX12_begin1_RX12 (by decide +kernel)) (fz_pre (va_recv hK hP (ci := 12) (q0 := 0) rfl rfl) hP hK hD) rfl rfl hl.1 rfl (lv_room (Nat.le_of_ble_eq_true rfl)) dX12_readLinear_248 (by decide +kernel)) hS (fun q _ h => hFc q h) hFc (fun u t9_ H locs ht hvm hw9 hB9 hz1 hk1 hS => ?_)
              revert u hw9 hB9
              refine fz_p10 ?_
              intro s2248 p2248 g39248 g40248 g41248 g42248 g47248 g48248 d2248 w2248 hw9 hB9
              try dsimp only at hw9 hB9
              have e9F : fT (fT (fT (fT (fT (fT (fT (fT (fT (fT (fT (fT (fT (fT (fT vF 29 b29) 30 b30) 31 b31) 32 b32) 33 b33) 34 b34) 35 b35) 42 g42248) 41 g41248) 43 (upd (vF 43) ((nI dN)).toNatClampNeg (vi 20))) 45 (upd (vF 45) ((nI dN)).toNatClampNeg (nI fn))) 39 g39248) 40 g40248) 47 g47248) 48 g48248 = fT (fT (fT (fT (fT (fT (fT (fT (fT (fT (fT (fT (fT (fT (fT (fT (fT vF 29 b29) 30 b30) 31 b31) 32 b32) 33 b33) 34 b34) 35 b35) 42 (upd (upd (vF 42) ((nI dN)).toNatClampNeg (nI c3)) ((nI dN)).toNatClampNeg (-1))) 41 (upd (vF 41) ((nI dN)).toNatClampNeg (nI c1))) 43 (upd (vF 43) ((nI dN)).toNatClampNeg (vi 20))) 45 (upd (vF 45) ((nI dN)).toNatClampNeg (nI fn))) 39 g39248) 40 g40248) 41 g41248) 42 g42248) 47 g47248) 48 g48248 := ch_E vF [b29, b30, b31, b32, b33, b34, b35, g42248, g41248, upd (vF 43) ((nI dN)).toNatClampNeg (vi 20), upd (vF 45) ((nI dN)).toNatClampNeg (nI fn), g39248, g40248, g47248, g48248, upd (upd (vF 42) ((nI dN)).toNatClampNeg (nI c3)) ((nI dN)).toNatClampNeg (-1), upd (vF 41) ((nI dN)).toNatClampNeg (nI c1)] [(48, 15), (47, 14), (40, 13), (39, 12), (45, 11), (43, 10), (41, 9), (42, 8), (35, 7), (34, 6), (33, 5), (32, 4), (31, 3), (30, 2), (29, 1)] [(48, 15), (47, 14), (42, 8), (41, 9), (40, 13), (39, 12), (45, 11), (43, 10), (41, 17), (42, 16), (35, 7), (34, 6), (33, 5), (32, 4), (31, 3), (30, 2), (29, 1)] [] trivial (by decide +kernel)
              have hP := wr_PF e9F (fz_P ht hB9.1)
              have hD := wr_DF e9F (hB9.2.weaken (fun _ q _ h => hFc q.1 h))
              clear e9F
              revert hw9
              refine fz_a4 ?_
              intro f248_0 f248_1 f248_2 f248_3
              have f248_1 : 0 < (s2248).toInt ∨ (s2248 = (vi 21) ∧ BgO 1 wd243 sg243 g39248 g40248 g41248 g42248 g48248 (dN + 1) wi d2248 w2248) := f248_1
              have f248_2 : FrmO (dN + 1) (vF 39) (vF 40) (upd (vF 41) ((nI dN)).toNatClampNeg (nI c1)) (upd (upd (vF 42) ((nI dN)).toNatClampNeg (nI c3)) ((nI dN)).toNatClampNeg (-1)) (vF 48) g39248 g40248 g41248 g42248 g48248 := f248_2
              refine W.widen (k := 0) (n := 0) (by decide +kernel) (by decide +kernel) ?_
              have e9 : fT (fT (fT (fT (fT (fT (fT (fT (fT (fT (fT vi 52 (nI nd4)) 17 (nI a2243)) 19 (nI f2243)) 20 sg243) 18 wd243) 75 (nI w2248)) 74 (nI d2248)) 21 s2248) 22 p2248) 76 (vi 76)) 77 (vi 77) = fT (fT (fT (fT (fT (fT (fT (fT (fT vi 52 (nI nd4)) 17 (nI a2243)) 19 (nI f2243)) 20 sg243) 18 wd243) 75 (nI w2248)) 74 (nI d2248)) 21 s2248) 22 p2248 := ch_E vi [nI nd4, nI a2243, nI f2243, sg243, wd243, nI w2248, nI d2248, s2248, p2248] [(77, 0), (76, 0), (22, 9), (21, 8), (74, 7), (75, 6), (18, 5), (20, 4), (19, 3), (17, 2), (52, 1)] [(22, 9), (21, 8), (74, 7), (75, 6), (18, 5), (20, 4), (19, 3), (17, 2), (52, 1)] [] trivial (by decide +kernel)
              have hP := wr_Pi e9 hP
              have hD := wr_Di e9 hD
              clear e9
              have e9 : fT (fT (fT (fT (fT (fT (fT (fT (fT (fT (fT (fT (fT (fT (fT (fT (fT vF 29 b29) 30 b30) 31 b31) 32 b32) 33 b33) 34 b34) 35 b35) 42 g42248) 44 (vF 44)) 46 (vF 46)) 39 g39248) 40 g40248) 41 g41248) 47 g47248) 48 g48248) 43 (upd (vF 43) ((nI dN)).toNatClampNeg (vi 20))) 45 (upd (vF 45) ((nI dN)).toNatClampNeg (nI fn)) = fT (fT (fT (fT (fT (fT (fT (fT (fT (fT (fT (fT (fT (fT (fT vF 29 b29) 30 b30) 31 b31) 32 b32) 33 b33) 34 b34) 35 b35) 42 g42248) 41 g41248) 43 (upd (vF 43) ((nI dN)).toNatClampNeg (vi 20))) 45 (upd (vF 45) ((nI dN)).toNatClampNeg (nI fn))) 39 g39248) 40 g40248) 47 g47248) 48 g48248 := ch_E vF [b29, b30, b31, b32, b33, b34, b35, g42248, g39248, g40248, g41248, g47248, g48248, upd (vF 43) ((nI dN)).toNatClampNeg (vi 20), upd (vF 45) ((nI dN)).toNatClampNeg (nI fn)] [(45, 15), (43, 14), (48, 13), (47, 12), (41, 11), (40, 10), (39, 9), (46, 0), (44, 0), (42, 8), (35, 7), (34, 6), (33, 5), (32, 4), (31, 3), (30, 2), (29, 1)] [(48, 13), (47, 12), (40, 10), (39, 9), (45, 15), (43, 14), (41, 11), (42, 8), (35, 7), (34, 6), (33, 5), (32, 4), (31, 3), (30, 2), (29, 1)] [] trivial (by decide +kernel)
              have hP := wr_PF e9 hP
              have hD := wr_DF e9 hD
              clear e9
              exact W.vret hx hb hr (fun t9_ ht hW => ⟨⟨(a2243, f2243, sg243, wd243, s2248, p2248, b29, b30, b31, b32, b33, b34, b35, g39248, g40248, g41248, g42248, (upd (vF 43) ((nI dN)).toNatClampNeg (vi 20)), (vF 44), (upd (vF 45) ((nI dN)).toNatClampNeg (nI fn)), (vF 46), g47248, g48248, d2248, w2248, nd4, (vi 76), (vi 77), G4), rfl, by (try dsimp only); exact ⟨f243_0, by omega, f248_0, by rcases f248_1 with h9 | h9; (exact Or.inl h9); (exact Or.inr ⟨RdS.push (gm := gl) hK4.1 hBel hK4.2.1 (Nat.le_refl _) (fun q hq => ⟨rfl, rfl, by rw [upd_at (by omega), if_neg (by omega)], by rw [upd_at (by omega), if_neg (by omega), upd_at (by omega), if_neg (by omega)], rfl⟩) h39 (by decide) h48 (by omega) ⟨⟨by omega, fun _ => by omega, fun h8 => absurd h8 (by decide), Nat.le_refl _⟩, Or.inl ⟨rfl, rfl, hq0, rfl, rfl, 1, 0, Or.inr ⟨rfl, c1, by rw [upd_at (by omega), if_pos rfl], hL4⟩, Or.inl ⟨by rw [upd_at (by omega), if_pos rfl], rfl⟩, rfl⟩⟩ f248_2 (by rw [← hwc]; exact h9.2) (show (1 : Int32) = nI 1 by decide) (by decide) (by omega) (by omega) (by omega) (by omega) hK4.2.2.2 (by show 10 * (4000 - _) + dN + 1 + 1 ≤ mM - 1; omega), hK4.2.1.less (Nat.zero_le _)⟩), by omega⟩, by rw [ht]; exact hP, hD⟩, hS.F ht⟩) hS.2.2 dX12_readLinear_251
            · have f207_0 : ¬ ((vi 18).toInt = 4 ∧ (vi 20) = 43) := f207_0
              refine lv_if_ne (tgt := 222) hx hb dX12_readLinear_210 (by decide) (fun c9 => absurd c9 (by decide)) (fun _ => ?_)
              refine lv_aload_n hx hb dX12_readLinear_213 rfl (lv_at hl 0 rfl) ?_
              refine lv_bipush (v := 45) hx hb dX12_readLinear_214 (by decide) ?_
              have hFc := allFree hD hS hA
              refine va_calli (va_runV (As := [.int 45]) (rest := []) ⟨hx, hb, hml, hown, hts⟩ (r_X12_isSign l dC dI a k h0 (fT vi 52 (nI nd4)) vj (fT (fT (fT (fT (fT (fT (fT (fT (fT vF 29 b29) 30 b30) 31 b31) 32 b32) 33 b33) 34 b34) 35 b35) 42 (upd (upd (vF 42) ((nI dN)).toNatClampNeg (nI c3)) ((nI dN)).toNatClampNeg (-1))) 41 (upd (vF 41) ((nI dN)).toNatClampNeg (nI c1))) vG 45 H.size) (cwV 1 hts gwsRX12_readLinear_1 rfl rfl rfl hd_yX12_isSign_RX12 (by decide +kernel)) (fz_pre (va_recv hK hP (ci := 12) (q0 := 0) rfl rfl) hP hK hD) rfl rfl hl.1 rfl (lv_room (Nat.le_of_ble_eq_true rfl)) dX12_readLinear_216 (by decide +kernel)) hS (fun q _ h => hFc q h) hFc (fun r216 u t9_ H locs ht hvm hw9 hB9 hz1 hk1 hS => ?_)
              have hP : va_P (dC, dI) vwCl (WR a k h0 (fT vi 52 (nI nd4)) vj (fT (fT (fT (fT (fT (fT (fT (fT (fT vF 29 b29) 30 b30) 31 b31) 32 b32) 33 b33) 34 b34) 35 b35) 42 (upd (upd (vF 42) ((nI dN)).toNatClampNeg (nI c3)) ((nI dN)).toNatClampNeg (-1))) 41 (upd (vF 41) ((nI dN)).toNatClampNeg (nI c1))) vG) H := fz_P ht hB9.1
              have hD := fz_sd hP (hB9.2.weaken (fun _ q _ h => hFc q.1 h)) rfl
              rcases hw9 with ⟨rfl, f216_0, f216_1⟩ | ⟨rfl, f216_0⟩
              · have f216_0 : (vi 18).toInt = 4 := f216_0
                have f216_1 : (vi 20) = 45 := f216_1
                refine lv_if_eq (tgt := 252) hx hb dX12_readLinear_219 (by decide) (fun c9 => absurd c9 (by decide)) (fun _ => ?_)
                have hfl : fn < an := hLx.2.2.1.resolve_left (fun h => by first | (rw [h] at f207_0; exact absurd f207_0 (by decide)) | (rw [h] at f216_0; exact absurd f216_0 (by decide)))
                refine lv_aload_n hx hb dX12_readLinear_222 rfl (lv_at hl 0 rfl) ?_
                refine va_get (D := (dC, dI)) (ci := 12) (v := .ref (a 43)) (C := RX12) (T := TX12) (N := 163) (fs := fM (vS a (fT vi 52 (nI nd4)) vj)) hx hb hts iwsRX12_readLinear_in12 hown hK hP 0 rfl rfl 68 (by decide) (hts _ hm_r_X12_readLinear_8) (fun _ h9 => h9) rfl dX12_readLinear_223 ?_
                refine lv_iload_n hx hb dX12_readLinear_226 rfl (lv_at hl 1 rfl) ?_
                refine lv_aload_n hx hb dX12_readLinear_227 rfl (lv_at hl 0 rfl) ?_
                refine va_get (D := (dC, dI)) (ci := 12) (v := .int (vi 20)) (C := RX12) (T := TX12) (N := 163) (fs := fM (vS a (fT vi 52 (nI nd4)) vj)) hx hb hts iwsRX12_readLinear_in12 hown hK hP 0 rfl rfl 20 (by decide) (hts _ hm_r_X12_readLinear_5) (fun _ h9 => h9) rfl dX12_readLinear_228 ?_
                refine va_iast (cA := k 43) (n := 120) (f := (vF 43)) hx hb hK hP hD hS 44 43 (WR_get 43 (by decide)) (TR_get 43 (by decide)) (vp_in_nI (show dN < 120 by omega) (by omega)) dX12_readLinear_231 (fun H locs hP hD hS => ?_)
                have hP : va_P (dC, dI) vwCl (WR a k h0 (fT vi 52 (nI nd4)) vj (fT (fT (fT (fT (fT (fT (fT (fT (fT (fT vF 29 b29) 30 b30) 31 b31) 32 b32) 33 b33) 34 b34) 35 b35) 42 (upd (upd (vF 42) ((nI dN)).toNatClampNeg (nI c3)) ((nI dN)).toNatClampNeg (-1))) 41 (upd (vF 41) ((nI dN)).toNatClampNeg (nI c1))) 43 (upd (vF 43) ((nI dN)).toNatClampNeg (vi 20))) vG) H := fz_w (WR_F 43 (by decide) _ rfl) hP
                have hD : va_D A (WR a k h0 (fT vi 52 (nI nd4)) vj (fT (fT (fT (fT (fT (fT (fT (fT (fT (fT vF 29 b29) 30 b30) 31 b31) 32 b32) 33 b33) 34 b34) 35 b35) 42 (upd (upd (vF 42) ((nI dN)).toNatClampNeg (nI c3)) ((nI dN)).toNatClampNeg (-1))) 41 (upd (vF 41) ((nI dN)).toNatClampNeg (nI c1))) 43 (upd (vF 43) ((nI dN)).toNatClampNeg (vi 20))) vG) := fz_wD (WR_F 43 (by decide) _ rfl) hD
                refine lv_aload_n hx hb dX12_readLinear_232 rfl (lv_at hl 0 rfl) ?_
                refine va_get (D := (dC, dI)) (ci := 12) (v := .ref (a 45)) (C := RX12) (T := TX12) (N := 163) (fs := fM (vS a (fT vi 52 (nI nd4)) vj)) hx hb hts iwsRX12_readLinear_in12 hown hK hP 0 rfl rfl 70 (by decide) (hts _ hm_r_X12_readLinear_9) (fun _ h9 => h9) rfl dX12_readLinear_233 ?_
                refine lv_iload_n hx hb dX12_readLinear_236 rfl (lv_at hl 1 rfl) ?_
                refine lv_aload_n hx hb dX12_readLinear_237 rfl (lv_at hl 0 rfl) ?_
                refine va_get (D := (dC, dI)) (ci := 12) (v := .int (vi 19)) (C := RX12) (T := TX12) (N := 163) (fs := fM (vS a (fT vi 52 (nI nd4)) vj)) hx hb hts iwsRX12_readLinear_in12 hown hK hP 0 rfl rfl 19 (by decide) (hts _ hm_r_X12_readLinear_6) (fun _ h9 => h9) rfl dX12_readLinear_238 ?_
                refine lv_topi (fun y21 hy21 => ?_)
                obtain rfl : (nI fn) = y21 := (hy21.trans (hfr)).symm
                refine va_iast (cA := k 45) (n := 120) (f := (vF 45)) hx hb hK hP hD hS 46 45 (WR_get 45 (by decide)) (TR_get 45 (by decide)) (vp_in_nI (show dN < 120 by omega) (by omega)) dX12_readLinear_241 (fun H locs hP hD hS => ?_)
                have hP : va_P (dC, dI) vwCl (WR a k h0 (fT vi 52 (nI nd4)) vj (fT (fT (fT (fT (fT (fT (fT (fT (fT (fT (fT vF 29 b29) 30 b30) 31 b31) 32 b32) 33 b33) 34 b34) 35 b35) 42 (upd (upd (vF 42) ((nI dN)).toNatClampNeg (nI c3)) ((nI dN)).toNatClampNeg (-1))) 41 (upd (vF 41) ((nI dN)).toNatClampNeg (nI c1))) 43 (upd (vF 43) ((nI dN)).toNatClampNeg (vi 20))) 45 (upd (vF 45) ((nI dN)).toNatClampNeg (nI fn))) vG) H := fz_w (WR_F 45 (by decide) _ rfl) hP
                have hD : va_D A (WR a k h0 (fT vi 52 (nI nd4)) vj (fT (fT (fT (fT (fT (fT (fT (fT (fT (fT (fT vF 29 b29) 30 b30) 31 b31) 32 b32) 33 b33) 34 b34) 35 b35) 42 (upd (upd (vF 42) ((nI dN)).toNatClampNeg (nI c3)) ((nI dN)).toNatClampNeg (-1))) 41 (upd (vF 41) ((nI dN)).toNatClampNeg (nI c1))) 43 (upd (vF 43) ((nI dN)).toNatClampNeg (vi 20))) 45 (upd (vF 45) ((nI dN)).toNatClampNeg (nI fn))) vG) := fz_wD (WR_F 45 (by decide) _ rfl) hD
                refine lv_aload_n hx hb dX12_readLinear_242 rfl (lv_at hl 0 rfl) ?_
                have hFc := allFree hD hS hA
                refine va_callv (va_runV (As := []) (rest := []) ⟨hx, hb, hml, hown, hts⟩ (r_X12_next l dC dI a k h0 (fT vi 52 (nI nd4)) vj (fT (fT (fT (fT (fT (fT (fT (fT (fT (fT (fT vF 29 b29) 30 b30) 31 b31) 32 b32) 33 b33) 34 b34) 35 b35) 42 (upd (upd (vF 42) ((nI dN)).toNatClampNeg (nI c3)) ((nI dN)).toNatClampNeg (-1))) 41 (upd (vF 41) ((nI dN)).toNatClampNeg (nI c1))) 43 (upd (vF 43) ((nI dN)).toNatClampNeg (vi 20))) 45 (upd (vF 45) ((nI dN)).toNatClampNeg (nI fn))) vG tp an hTp (by first | with_reducible assumption | decide | omega | rfl | assumption) ha0 (by first | with_reducible assumption | decide | omega | rfl | assumption) H.size) (cwV 0 hts gwsRX12_readLinear_2 rfl rfl rfl hd_yX12_next_RX12 (by decide +kernel)) (fz_preE (va_recv hK hP (ci := 12) (q0 := 0) rfl rfl) hP hK hD (fun a U g mk qE => qE.same rfl) (fun U hU9 hW => by rw [hU9]; exact (((hE : StrA A s s.heap).kept hS.2.1).narrow (fun q h => hFc q h)).warm hW)) rfl rfl hl.1 rfl (lv_room (Nat.le_of_ble_eq_true rfl)) dX12_readLinear_243 (by decide +kernel)) hS (fun q _ h => hFc q h) hFc (fun u t9_ H locs ht hvm hw9 hB9 hz1 hk1 hS => ?_)
                revert u hw9 hB9
                refine fz_p4 ?_
                intro a2243_1 f2243_1 sg243_1 wd243_1 hw9 hB9
                try dsimp only at hw9 hB9
                have hP : va_P (dC, dI) vwCl (WR a k h0 (fT (fT (fT (fT (fT vi 52 (nI nd4)) 17 (nI a2243_1)) 19 (nI f2243_1)) 20 sg243_1) 18 wd243_1) vj (fT (fT (fT (fT (fT (fT (fT (fT (fT (fT (fT vF 29 b29) 30 b30) 31 b31) 32 b32) 33 b33) 34 b34) 35 b35) 42 (upd (upd (vF 42) ((nI dN)).toNatClampNeg (nI c3)) ((nI dN)).toNatClampNeg (-1))) 41 (upd (vF 41) ((nI dN)).toNatClampNeg (nI c1))) 43 (upd (vF 43) ((nI dN)).toNatClampNeg (vi 20))) 45 (upd (vF 45) ((nI dN)).toNatClampNeg (nI fn))) vG) H := fz_P ht hB9.1
                have hD := fz_sd hP (hB9.2.weaken (fun _ q _ h => hFc q.1 h)) rfl
                revert hw9
                refine fz_a2 ?_
                intro f243_1_0 f243_1_1
                have hl1 := f243_1_0.1
                have hl2 := f243_1_0.2.1
                refine lv_aload_n hx hb dX12_readLinear_246 rfl (lv_at hl 0 rfl) ?_
                refine lv_iconst (v := 1) hx hb dX12_readLinear_247 (by decide) ?_
                have hFc := allFree hD hS hA
                refine va_callv (va_runV (As := [.int 1]) (rest := []) ⟨hx, hb, hml, hown, hts⟩ (r_X12_begin1 l dC dI a k h0 (fT (fT (fT (fT (fT vi 52 (nI nd4)) 17 (nI a2243_1)) 19 (nI f2243_1)) 20 sg243_1) 18 wd243_1) vj (fT (fT (fT (fT (fT (fT (fT (fT (fT (fT (fT vF 29 b29) 30 b30) 31 b31) 32 b32) 33 b33) 34 b34) 35 b35) 42 (upd (upd (vF 42) ((nI dN)).toNatClampNeg (nI c3)) ((nI dN)).toNatClampNeg (-1))) 41 (upd (vF 41) ((nI dN)).toNatClampNeg (nI c1))) 43 (upd (vF 43) ((nI dN)).toNatClampNeg (vi 20))) 45 (upd (vF 45) ((nI dN)).toNatClampNeg (nI fn))) vG 1 tp a2243_1 f2243_1 nm se pa va bd (dN + 1) wi hTp (by first | with_reducible assumption | decide | omega | rfl | assumption) rfl rfl (f243_1_0) (by first | with_reducible assumption | decide | omega | rfl | assumption) hnm (by first | with_reducible assumption | decide | omega | rfl | assumption) (by first | with_reducible assumption | decide | omega | rfl | assumption) (by first | with_reducible assumption | decide | omega | rfl | assumption) hbd (by first | with_reducible assumption | decide | omega | rfl | assumption) (by first | with_reducible assumption | decide | omega | rfl | assumption) (hdp) (by first | with_reducible assumption | decide | omega | rfl | assumption) hwi (by first | with_reducible assumption | decide | omega | rfl | assumption) H.size) (cwV 1 hts gwsRX12_readLinear_3 rfl rfl rfl hd_yX12_begin1_RX12 (by decide +kernel)) (fz_pre (va_recv hK hP (ci := 12) (q0 := 0) rfl rfl) hP hK hD) rfl rfl hl.1 rfl (lv_room (Nat.le_of_ble_eq_true rfl)) dX12_readLinear_248 (by decide +kernel)) hS (fun q _ h => hFc q h) hFc (fun u t9_ H locs ht hvm hw9 hB9 hz1 hk1 hS => ?_)
                revert u hw9 hB9
                refine fz_p10 ?_
                intro s2248_1 p2248_1 g39248_1 g40248_1 g41248_1 g42248_1 g47248_1 g48248_1 d2248_1 w2248_1 hw9 hB9
                try dsimp only at hw9 hB9
                have e9F : fT (fT (fT (fT (fT (fT (fT (fT (fT (fT (fT (fT (fT (fT (fT vF 29 b29) 30 b30) 31 b31) 32 b32) 33 b33) 34 b34) 35 b35) 42 g42248_1) 41 g41248_1) 43 (upd (vF 43) ((nI dN)).toNatClampNeg (vi 20))) 45 (upd (vF 45) ((nI dN)).toNatClampNeg (nI fn))) 39 g39248_1) 40 g40248_1) 47 g47248_1) 48 g48248_1 = fT (fT (fT (fT (fT (fT (fT (fT (fT (fT (fT (fT (fT (fT (fT (fT (fT vF 29 b29) 30 b30) 31 b31) 32 b32) 33 b33) 34 b34) 35 b35) 42 (upd (upd (vF 42) ((nI dN)).toNatClampNeg (nI c3)) ((nI dN)).toNatClampNeg (-1))) 41 (upd (vF 41) ((nI dN)).toNatClampNeg (nI c1))) 43 (upd (vF 43) ((nI dN)).toNatClampNeg (vi 20))) 45 (upd (vF 45) ((nI dN)).toNatClampNeg (nI fn))) 39 g39248_1) 40 g40248_1) 41 g41248_1) 42 g42248_1) 47 g47248_1) 48 g48248_1 := ch_E vF [b29, b30, b31, b32, b33, b34, b35, g42248_1, g41248_1, upd (vF 43) ((nI dN)).toNatClampNeg (vi 20), upd (vF 45) ((nI dN)).toNatClampNeg (nI fn), g39248_1, g40248_1, g47248_1, g48248_1, upd (upd (vF 42) ((nI dN)).toNatClampNeg (nI c3)) ((nI dN)).toNatClampNeg (-1), upd (vF 41) ((nI dN)).toNatClampNeg (nI c1)] [(48, 15), (47, 14), (40, 13), (39, 12), (45, 11), (43, 10), (41, 9), (42, 8), (35, 7), (34, 6), (33, 5), (32, 4), (31, 3), (30, 2), (29, 1)] [(48, 15), (47, 14), (42, 8), (41, 9), (40, 13), (39, 12), (45, 11), (43, 10), (41, 17), (42, 16), (35, 7), (34, 6), (33, 5), (32, 4), (31, 3), (30, 2), (29, 1)] [] trivial (by decide +kernel)
                have hP := wr_PF e9F (fz_P ht hB9.1)
                have hD := wr_DF e9F (hB9.2.weaken (fun _ q _ h => hFc q.1 h))
                clear e9F
                revert hw9
                refine fz_a4 ?_
                intro f248_1_0 f248_1_1 f248_1_2 f248_1_3
                have f248_1_1 : 0 < (s2248_1).toInt ∨ (s2248_1 = (vi 21) ∧ BgO 1 wd243_1 sg243_1 g39248_1 g40248_1 g41248_1 g42248_1 g48248_1 (dN + 1) wi d2248_1 w2248_1) := f248_1_1
                have f248_1_2 : FrmO (dN + 1) (vF 39) (vF 40) (upd (vF 41) ((nI dN)).toNatClampNeg (nI c1)) (upd (upd (vF 42) ((nI dN)).toNatClampNeg (nI c3)) ((nI dN)).toNatClampNeg (-1)) (vF 48) g39248_1 g40248_1 g41248_1 g42248_1 g48248_1 := f248_1_2
                refine W.widen (k := 0) (n := 0) (by decide +kernel) (by decide +kernel) ?_
                have e9 : fT (fT (fT (fT (fT (fT (fT (fT (fT (fT (fT vi 52 (nI nd4)) 17 (nI a2243_1)) 19 (nI f2243_1)) 20 sg243_1) 18 wd243_1) 75 (nI w2248_1)) 74 (nI d2248_1)) 21 s2248_1) 22 p2248_1) 76 (vi 76)) 77 (vi 77) = fT (fT (fT (fT (fT (fT (fT (fT (fT vi 52 (nI nd4)) 17 (nI a2243_1)) 19 (nI f2243_1)) 20 sg243_1) 18 wd243_1) 75 (nI w2248_1)) 74 (nI d2248_1)) 21 s2248_1) 22 p2248_1 := ch_E vi [nI nd4, nI a2243_1, nI f2243_1, sg243_1, wd243_1, nI w2248_1, nI d2248_1, s2248_1, p2248_1] [(77, 0), (76, 0), (22, 9), (21, 8), (74, 7), (75, 6), (18, 5), (20, 4), (19, 3), (17, 2), (52, 1)] [(22, 9), (21, 8), (74, 7), (75, 6), (18, 5), (20, 4), (19, 3), (17, 2), (52, 1)] [] trivial (by decide +kernel)
                have hP := wr_Pi e9 hP
                have hD := wr_Di e9 hD
                clear e9
                have e9 : fT (fT (fT (fT (fT (fT (fT (fT (fT (fT (fT (fT (fT (fT (fT (fT (fT vF 29 b29) 30 b30) 31 b31) 32 b32) 33 b33) 34 b34) 35 b35) 42 g42248_1) 44 (vF 44)) 46 (vF 46)) 39 g39248_1) 40 g40248_1) 41 g41248_1) 47 g47248_1) 48 g48248_1) 43 (upd (vF 43) ((nI dN)).toNatClampNeg (vi 20))) 45 (upd (vF 45) ((nI dN)).toNatClampNeg (nI fn)) = fT (fT (fT (fT (fT (fT (fT (fT (fT (fT (fT (fT (fT (fT (fT vF 29 b29) 30 b30) 31 b31) 32 b32) 33 b33) 34 b34) 35 b35) 42 g42248_1) 41 g41248_1) 43 (upd (vF 43) ((nI dN)).toNatClampNeg (vi 20))) 45 (upd (vF 45) ((nI dN)).toNatClampNeg (nI fn))) 39 g39248_1) 40 g40248_1) 47 g47248_1) 48 g48248_1 := ch_E vF [b29, b30, b31, b32, b33, b34, b35, g42248_1, g39248_1, g40248_1, g41248_1, g47248_1, g48248_1, upd (vF 43) ((nI dN)).toNatClampNeg (vi 20), upd (vF 45) ((nI dN)).toNatClampNeg (nI fn)] [(45, 15), (43, 14), (48, 13), (47, 12), (41, 11), (40, 10), (39, 9), (46, 0), (44, 0), (42, 8), (35, 7), (34, 6), (33, 5), (32, 4), (31, 3), (30, 2), (29, 1)] [(48, 13), (47, 12), (40, 10), (39, 9), (45, 15), (43, 14), (41, 11), (42, 8), (35, 7), (34, 6), (33, 5), (32, 4), (31, 3), (30, 2), (29, 1)] [] trivial (by decide +kernel)
                have hP := wr_PF e9 hP
                have hD := wr_DF e9 hD
                clear e9
                exact W.vret hx hb hr (fun t9_ ht hW => ⟨⟨(a2243_1, f2243_1, sg243_1, wd243_1, s2248_1, p2248_1, b29, b30, b31, b32, b33, b34, b35, g39248_1, g40248_1, g41248_1, g42248_1, (upd (vF 43) ((nI dN)).toNatClampNeg (vi 20)), (vF 44), (upd (vF 45) ((nI dN)).toNatClampNeg (nI fn)), (vF 46), g47248_1, g48248_1, d2248_1, w2248_1, nd4, (vi 76), (vi 77), G4), rfl, by (try dsimp only); exact ⟨f243_1_0, by omega, f248_1_0, by rcases f248_1_1 with h9 | h9; (exact Or.inl h9); (exact Or.inr ⟨RdS.push (gm := gl) hK4.1 hBel hK4.2.1 (Nat.le_refl _) (fun q hq => ⟨rfl, rfl, by rw [upd_at (by omega), if_neg (by omega)], by rw [upd_at (by omega), if_neg (by omega), upd_at (by omega), if_neg (by omega)], rfl⟩) h39 (by decide) h48 (by omega) ⟨⟨by omega, fun _ => by omega, fun h8 => absurd h8 (by decide), Nat.le_refl _⟩, Or.inl ⟨rfl, rfl, hq0, rfl, rfl, 1, 0, Or.inr ⟨rfl, c1, by rw [upd_at (by omega), if_pos rfl], hL4⟩, Or.inl ⟨by rw [upd_at (by omega), if_pos rfl], rfl⟩, rfl⟩⟩ f248_1_2 (by rw [← hwc]; exact h9.2) (show (1 : Int32) = nI 1 by decide) (by decide) (by omega) (by omega) (by omega) (by omega) hK4.2.2.2 (by show 10 * (4000 - _) + dN + 1 + 1 ≤ mM - 1; omega), hK4.2.1.less (Nat.zero_le _)⟩), by omega⟩, by rw [ht]; exact hP, hD⟩, hS.F ht⟩) hS.2.2 dX12_readLinear_251
              · have f216_0 : ¬ ((vi 18).toInt = 4 ∧ (vi 20) = 45) := f216_0
                refine lv_if_eq (tgt := 252) hx hb dX12_readLinear_219 (by decide) (fun _ => ?_) (fun c9 => absurd (by decide) c9)
                refine lv_aload_n hx hb dX12_readLinear_252 rfl (lv_at hl 0 rfl) ?_
                refine lv_aload_n hx hb dX12_readLinear_253 rfl (lv_at hl 0 rfl) ?_
                refine va_get (D := (dC, dI)) (ci := 12) (v := .ref (a 41)) (C := RX12) (T := TX12) (N := 163) (fs := fM (vS a (fT vi 52 (nI nd4)) vj)) hx hb hts iwsRX12_readLinear_in12 hown hK hP 0 rfl rfl 66 (by decide) (hts _ hm_r_X12_readLinear_7) (fun _ h9 => h9) rfl dX12_readLinear_254 ?_
                refine lv_iload_n hx hb dX12_readLinear_257 rfl (lv_at hl 1 rfl) ?_
                refine va_iald (cA := k 41) (n := 120) (f := (upd (vF 41) ((nI dN)).toNatClampNeg (nI c1))) hx hb hK hP 42 41 (WR_get 41 (by decide)) (TR_get 41 (by decide)) (vp_in_nI (show dN < 120 by omega) (by omega)) dX12_readLinear_258 ?_
                refine lv_topi (fun y22 hy22 => ?_)
                obtain rfl : ((upd (vF 41) ((nI dN)).toNatClampNeg (nI c1)) dN) = y22 := (hy22.trans (by rw [nI_clamp (by omega)])).symm
                refine lv_topi (fun y23 hy23 => ?_)
                obtain rfl : (nI c1) = y23 := (hy23.trans (by rw [upd_at (by omega), if_pos rfl])).symm
                have hFc := allFree hD hS hA
                refine va_callv (va_runV (As := [.int (nI c1)]) (rest := []) ⟨hx, hb, hml, hown, hts⟩ (r_X12_end1w l dC dI a k h0 (fT vi 52 (nI nd4)) vj (fT (fT (fT (fT (fT (fT (fT (fT (fT vF 29 b29) 30 b30) 31 b31) 32 b32) 33 b33) 34 b34) 35 b35) 42 (upd (upd (vF 42) ((nI dN)).toNatClampNeg (nI c3)) ((nI dN)).toNatClampNeg (-1))) 41 (upd (vF 41) ((nI dN)).toNatClampNeg (nI c1))) vG (nI c1) dN wi xe (hdp) (by first | with_reducible assumption | decide | omega | rfl | assumption) hwi (by first | with_reducible assumption | decide | omega | rfl | assumption) (h48) (by first | with_reducible assumption | decide | omega | rfl | assumption) H.size) (cwV 1 hts gwsRX12_readLinear_4 rfl rfl rfl hd_yX12_end1_RX12 (by decide +kernel)) (fz_pre (va_recv hK hP (ci := 12) (q0 := 0) rfl rfl) hP hK hD) rfl rfl hl.1 rfl (lv_room (Nat.le_of_ble_eq_true rfl)) dX12_readLinear_259 (by decide +kernel)) hS (fun q _ h => hFc q h) hFc (fun u t9_ H locs ht hvm hw9 hB9 hz1 hk1 hS => ?_)
                have hP : va_P (dC, dI) vwCl (WR a k h0 (fT (fT (fT (fT (fT vi 52 (nI nd4)) 74 (nI dN)) 75 (nI (wi - xe))) 76 (nI c1)) 77 ((vF 47) dN)) vj (fT (fT (fT (fT (fT (fT (fT (fT (fT vF 29 b29) 30 b30) 31 b31) 32 b32) 33 b33) 34 b34) 35 b35) 42 (upd (upd (vF 42) ((nI dN)).toNatClampNeg (nI c3)) ((nI dN)).toNatClampNeg (-1))) 41 (upd (vF 41) ((nI dN)).toNatClampNeg (nI c1))) vG) H := fz_P ht hB9.1
                have hD := fz_sd hP (hB9.2.weaken (fun _ q _ h => hFc q.1 h)) rfl
                refine W.widen (k := 0) (n := 0) (by decide +kernel) (by decide +kernel) ?_
                have e9 : fT (fT (fT (fT (fT (fT (fT (fT (fT (fT (fT vi 52 (nI nd4)) 17 (nI an)) 19 (nI fn)) 20 (vi 20)) 18 (vi 18)) 75 (nI (wi - xe))) 74 (nI dN)) 21 (vi 21)) 22 (vi 22)) 76 (nI c1)) 77 ((vF 47) dN) = fT (fT (fT (fT (fT vi 52 (nI nd4)) 74 (nI dN)) 75 (nI (wi - xe))) 76 (nI c1)) 77 ((vF 47) dN) := ch_E vi [nI nd4, nI an, nI fn, nI (wi - xe), nI dN, nI c1, (vF 47) dN] [(77, 7), (76, 6), (22, 0), (21, 0), (74, 5), (75, 4), (18, 0), (20, 0), (19, 3), (17, 2), (52, 1)] [(77, 7), (76, 6), (75, 4), (74, 5), (52, 1)] [17, 19] ⟨show nI an = vi 17 from (by first | with_reducible rfl | with_reducible assumption | (symm; with_reducible assumption) | rfl | assumption | (symm; assumption) | (subst_vars; rfl)), show nI fn = vi 19 from (by first | with_reducible rfl | with_reducible assumption | (symm; with_reducible assumption) | rfl | assumption | (symm; assumption) | (subst_vars; rfl)), trivial⟩ (by decide +kernel)
                have hP := wr_Pi e9 hP
                have hD := wr_Di e9 hD
                clear e9
                have e9 : fT (fT (fT (fT (fT (fT (fT (fT (fT (fT (fT (fT (fT (fT (fT (fT (fT vF 29 b29) 30 b30) 31 b31) 32 b32) 33 b33) 34 b34) 35 b35) 42 (upd (upd (vF 42) ((nI dN)).toNatClampNeg (nI c3)) ((nI dN)).toNatClampNeg (-1))) 44 (vF 44)) 46 (vF 46)) 39 (vF 39)) 40 (vF 40)) 41 (upd (vF 41) ((nI dN)).toNatClampNeg (nI c1))) 47 (vF 47)) 48 (vF 48)) 43 (vF 43)) 45 (vF 45) = fT (fT (fT (fT (fT (fT (fT (fT (fT vF 29 b29) 30 b30) 31 b31) 32 b32) 33 b33) 34 b34) 35 b35) 42 (upd (upd (vF 42) ((nI dN)).toNatClampNeg (nI c3)) ((nI dN)).toNatClampNeg (-1))) 41 (upd (vF 41) ((nI dN)).toNatClampNeg (nI c1)) := ch_E vF [b29, b30, b31, b32, b33, b34, b35, upd (upd (vF 42) ((nI dN)).toNatClampNeg (nI c3)) ((nI dN)).toNatClampNeg (-1), upd (vF 41) ((nI dN)).toNatClampNeg (nI c1)] [(45, 0), (43, 0), (48, 0), (47, 0), (41, 9), (40, 0), (39, 0), (46, 0), (44, 0), (42, 8), (35, 7), (34, 6), (33, 5), (32, 4), (31, 3), (30, 2), (29, 1)] [(41, 9), (42, 8), (35, 7), (34, 6), (33, 5), (32, 4), (31, 3), (30, 2), (29, 1)] [] trivial (by decide +kernel)
                have hP := wr_PF e9 hP
                have hD := wr_DF e9 hD
                clear e9
                exact W.vret hx hb hr (fun t9_ ht hW => ⟨⟨(an, fn, (vi 20), (vi 18), (vi 21), (vi 22), b29, b30, b31, b32, b33, b34, b35, (vF 39), (vF 40), (upd (vF 41) ((nI dN)).toNatClampNeg (nI c1)), (upd (upd (vF 42) ((nI dN)).toNatClampNeg (nI c3)) ((nI dN)).toNatClampNeg (-1)), (vF 43), (vF 44), (vF 45), (vF 46), (vF 47), (vF 48), dN, (wi - xe), nd4, (nI c1), ((vF 47) dN), G4), rfl, by (try dsimp only); exact ⟨hLx, Nat.le_refl _, hst0, Or.inr ⟨by (have e9 : wi - xe = cw := by omega); rw [e9]; exact RdS.pop (ex := xe) hK4.1 hBel hK4.2.1 (Nat.le_refl _) (fun q hq => ⟨rfl, rfl, by rw [upd_at (by omega), if_neg (by omega)], by rw [upd_at (by omega), if_neg (by omega), upd_at (by omega), if_neg (by omega)], rfl⟩) (by omega) (fun _ => by omega) (by decide) (Or.inl ⟨by decide, hL4⟩) (by omega) (by omega) (by omega) (by omega) hK4.2.2.2 (by omega), hK4.2.1.less (Nat.zero_le _)⟩, by omega⟩, by rw [ht]; exact hP, hD⟩, hS.F ht⟩) hS.2.2 dX12_readLinear_262
  · have t_6 : (((vF 40) dN)).toInt = 0 := toI_nne c_6 rfl (by decide)
    have hz := hTq.linear.resolve_right (fun h => absurd (c_6.symm.trans h.1) (by decide))
    have hK0 := RdK.first (gl := gl) hRV (by omega)
    refine lv_aload_n hx hb dX12_readLinear_9 rfl (lv_at hl 0 rfl) ?_
    refine va_get (D := (dC, dI)) (ci := 12) (v := .ref (a 40)) (C := RX12) (T := TX12) (N := 163) (fs := fM (vS a vi vj)) hx hb hts iwsRX12_readLinear_in12 hown hK hP 0 rfl rfl 65 (by decide) (hts _ hm_r_X12_readLinear_0) (fun _ h9 => h9) rfl dX12_readLinear_10 ?_
    refine lv_iload_n hx hb dX12_readLinear_13 rfl (lv_at hl 1 rfl) ?_
    refine lv_iconst (v := 1) hx hb dX12_readLinear_14 (by decide) ?_
    refine va_iast (cA := k 40) (n := 120) (f := (vF 40)) hx hb hK hP hD hS 41 40 (WR_get 40 (by decide)) (TR_get 40 (by decide)) (vp_in_nI (show dN < 120 by omega) (by omega)) dX12_readLinear_15 (fun H locs hP hD hS => ?_)
    have hP : va_P (dC, dI) vwCl (WR a k h0 vi vj (fT vF 40 (upd (vF 40) ((nI dN)).toNatClampNeg 1)) vG) H := fz_w (WR_F 40 (by decide) _ rfl) hP
    have hD : va_D A (WR a k h0 vi vj (fT vF 40 (upd (vF 40) ((nI dN)).toNatClampNeg 1)) vG) := fz_wD (WR_F 40 (by decide) _ rfl) hD
    refine lv_aload_n hx hb dX12_readLinear_16 rfl (lv_at hl 0 rfl) ?_
    refine lv_iconst (v := 1) hx hb dX12_readLinear_17 (by decide) ?_
    have hFc := allFree hD hS hA
    refine va_callv (va_runV (As := [.int 1]) (rest := []) ⟨hx, hb, hml, hown, hts⟩ (r_X12_begin1 l dC dI a k h0 vi vj (fT vF 40 (upd (vF 40) ((nI dN)).toNatClampNeg 1)) vG 1 tp an fn nm se pa va bd (dN + 1) wi hTp (by first | with_reducible assumption | decide | omega | rfl | assumption) ha0 hfr (by first | with_reducible assumption | decide | omega | rfl | assumption) (by first | with_reducible assumption | decide | omega | rfl | assumption) hnm (by first | with_reducible assumption | decide | omega | rfl | assumption) (by first | with_reducible assumption | decide | omega | rfl | assumption) (by first | with_reducible assumption | decide | omega | rfl | assumption) hbd (by first | with_reducible assumption | decide | omega | rfl | assumption) (by first | with_reducible assumption | decide | omega | rfl | assumption) (hdp) (by first | with_reducible assumption | decide | omega | rfl | assumption) hwi (by first | with_reducible assumption | decide | omega | rfl | assumption) H.size) (cwV 1 hts gwsRX12_readLinear_3 rfl rfl rfl hd_yX12_begin1_RX12 (by decide +kernel)) (fz_pre (va_recv hK hP (ci := 12) (q0 := 0) rfl rfl) hP hK hD) rfl rfl hl.1 rfl (lv_room (Nat.le_of_ble_eq_true rfl)) dX12_readLinear_18 (by decide +kernel)) hS (fun q _ h => hFc q h) hFc (fun u t9_ H locs ht hvm hw9 hB9 hz1 hk1 hS => ?_)
    revert u hw9 hB9
    refine fz_p10 ?_
    intro s218 p218 g3918 g4018 g4118 g4218 g4718 g4818 d218 w218 hw9 hB9
    try dsimp only at hw9 hB9
    have e9F : fT (fT (fT (fT (fT (fT vF 40 g4018) 39 g3918) 41 g4118) 42 g4218) 47 g4718) 48 g4818 = fT (fT (fT (fT (fT (fT (fT vF 40 (upd (vF 40) ((nI dN)).toNatClampNeg 1)) 39 g3918) 40 g4018) 41 g4118) 42 g4218) 47 g4718) 48 g4818 := (congrArg (fun g9 => fT (fT (fT (fT g9 41 g4118) 42 g4218) 47 g4718) 48 g4818) ((fT_sw _ _ _ (Nat.ne_of_beq_eq_false rfl)).trans (congrArg (fun g9 => fT g9 39 g3918) (fT_sm _ _ _ _)))).symm
    have hP := wr_PF e9F (fz_P ht hB9.1)
    have hD := wr_DF e9F (hB9.2.weaken (fun _ q _ h => hFc q.1 h))
    clear e9F
    revert hw9
    refine fz_a4 ?_
    intro f18_0 f18_1 f18_2 f18_3
    have f18_1 : 0 < (s218).toInt ∨ (s218 = (vi 21) ∧ BgO 1 (vi 18) (vi 20) g3918 g4018 g4118 g4218 g4818 (dN + 1) wi d218 w218) := f18_1
    have f18_2 : FrmO (dN + 1) (vF 39) (upd (vF 40) ((nI dN)).toNatClampNeg 1) (vF 41) (vF 42) (vF 48) g3918 g4018 g4118 g4218 g4818 := f18_2
    refine W.widen (k := 0) (n := 0) (by decide +kernel) (by decide +kernel) ?_
    have e9 : fT (fT (fT (fT (fT (fT (fT (fT (fT (fT (fT vi 52 (nI nd)) 17 (nI an)) 19 (nI fn)) 20 (vi 20)) 18 (vi 18)) 75 (nI w218)) 74 (nI d218)) 21 s218) 22 p218) 76 (vi 76)) 77 (vi 77) = fT (fT (fT (fT vi 75 (nI w218)) 74 (nI d218)) 21 s218) 22 p218 := ch_E vi [nI nd, nI an, nI fn, nI w218, nI d218, s218, p218] [(77, 0), (76, 0), (22, 7), (21, 6), (74, 5), (75, 4), (18, 0), (20, 0), (19, 3), (17, 2), (52, 1)] [(22, 7), (21, 6), (74, 5), (75, 4)] [52, 17, 19] ⟨show nI nd = vi 52 from (by first | with_reducible rfl | with_reducible assumption | (symm; with_reducible assumption) | rfl | assumption | (symm; assumption) | (subst_vars; rfl)), show nI an = vi 17 from (by first | with_reducible rfl | with_reducible assumption | (symm; with_reducible assumption) | rfl | assumption | (symm; assumption) | (subst_vars; rfl)), show nI fn = vi 19 from (by first | with_reducible rfl | with_reducible assumption | (symm; with_reducible assumption) | rfl | assumption | (symm; assumption) | (subst_vars; rfl)), trivial⟩ (by decide +kernel)
    have hP := wr_Pi e9 hP
    have hD := wr_Di e9 hD
    clear e9
    have e9 : fT (fT (fT (fT (fT (fT (fT (fT (fT (fT (fT (fT (fT (fT (fT (fT (fT vF 29 (vF 29)) 30 (vF 30)) 31 (vF 31)) 32 (vF 32)) 33 (vF 33)) 34 (vF 34)) 35 (vF 35)) 42 g4218) 44 (vF 44)) 46 (vF 46)) 39 g3918) 40 g4018) 41 g4118) 47 g4718) 48 g4818) 43 (vF 43)) 45 (vF 45) = fT (fT (fT (fT (fT (fT vF 40 g4018) 39 g3918) 41 g4118) 42 g4218) 47 g4718) 48 g4818 := ch_E vF [g4218, g3918, g4018, g4118, g4718, g4818] [(45, 0), (43, 0), (48, 6), (47, 5), (41, 4), (40, 3), (39, 2), (46, 0), (44, 0), (42, 1), (35, 0), (34, 0), (33, 0), (32, 0), (31, 0), (30, 0), (29, 0)] [(48, 6), (47, 5), (42, 1), (41, 4), (39, 2), (40, 3)] [] trivial (by decide +kernel)
    have hP := wr_PF e9 hP
    have hD := wr_DF e9 hD
    clear e9
    exact W.vret hx hb hr (fun t9_ ht hW => ⟨⟨(an, fn, (vi 20), (vi 18), s218, p218, (vF 29), (vF 30), (vF 31), (vF 32), (vF 33), (vF 34), (vF 35), g3918, g4018, g4118, g4218, (vF 43), (vF 44), (vF 45), (vF 46), g4718, g4818, d218, w218, nd, (vi 76), (vi 77), gG), rfl, by (try dsimp only); exact ⟨hLx, by omega, f18_0, by rcases f18_1 with h9 | h9; (exact Or.inl h9); (exact Or.inr ⟨RdS.push (gm := gl) hK0.1 hBel hK0.2.1 (Nat.le_refl _) (fun q hq => ⟨rfl, by rw [upd_at (by omega), if_neg (by omega)], rfl, rfl, rfl⟩) h39 (by decide) h48 (by omega) ⟨⟨by omega, fun _ => by omega, fun h8 => absurd h8 (by decide), Nat.le_refl _⟩, Or.inl ⟨rfl, rfl, by rw [upd_at (by omega), if_pos rfl], rfl, rfl, 0, 0, Or.inl ⟨hz.2.1, rfl⟩, Or.inl ⟨hz.2.2.1, rfl⟩, rfl⟩⟩ f18_2 (by rw [← hwc]; exact h9.2) (show (1 : Int32) = nI 1 by decide) (by decide) (by omega) (by omega) (by omega) (by omega) (by omega) (by show 10 * (4000 - _) + dN + 1 + 1 ≤ mM - 1; omega), hK0.2.1.less (Nat.zero_le _)⟩), by omega⟩, by rw [ht]; exact hP, hD⟩, hS.F ht⟩) hS.2.2 dX12_readLinear_21
end
section
theorem dX12_readTruth_0 : decode cX12_readTruth 0 = .ok (.aload_n 0, 1) := dk_42 (by decide +kernel)
theorem dX12_readTruth_1 : decode cX12_readTruth 1 = .ok (.getfield 143, 3) := dk_180 (by decide +kernel)
theorem dX12_readTruth_4 : decode cX12_readTruth 4 = .ok (.iload_n 1, 1) := dk_27 (by decide +kernel)
theorem dX12_readTruth_5 : decode cX12_readTruth 5 = .ok (.iaload, 1) := dk_46 (by decide +kernel)
theorem dX12_readTruth_6 : decode cX12_readTruth 6 = .ok (.ifCond .ne 16, 3) := dk_154 (by decide +kernel)
theorem dX12_readTruth_9 : decode cX12_readTruth 9 = .ok (.aload_n 0, 1) := dk_42 (by decide +kernel)
theorem dX12_readTruth_10 : decode cX12_readTruth 10 = .ok (.getfield 143, 3) := dk_180 (by decide +kernel)
theorem dX12_readTruth_13 : decode cX12_readTruth 13 = .ok (.iload_n 1, 1) := dk_27 (by decide +kernel)
theorem dX12_readTruth_14 : decode cX12_readTruth 14 = .ok (.iconst 1, 1) := dk_4 (by decide +kernel)
theorem dX12_readTruth_15 : decode cX12_readTruth 15 = .ok (.iastore, 1) := dk_79 (by decide +kernel)
theorem dX12_readTruth_16 : decode cX12_readTruth 16 = .ok (.aload_n 0, 1) := dk_42 (by decide +kernel)
theorem dX12_readTruth_17 : decode cX12_readTruth 17 = .ok (.iconst 3, 1) := dk_6 (by decide +kernel)
theorem dX12_readTruth_18 : decode cX12_readTruth 18 = .ok (.invokevirtual 586, 3) := dk_182 (by decide +kernel)
theorem dX12_readTruth_21 : decode cX12_readTruth 21 = .ok (.return_, 1) := dk_177 (by decide +kernel)
theorem dX12_readTruth_22 : decode cX12_readTruth 22 = .ok (.aload_n 0, 1) := dk_42 (by decide +kernel)
theorem dX12_readTruth_23 : decode cX12_readTruth 23 = .ok (.getfield 149, 3) := dk_180 (by decide +kernel)
theorem dX12_readTruth_26 : decode cX12_readTruth 26 = .ok (.iload_n 1, 1) := dk_27 (by decide +kernel)
theorem dX12_readTruth_27 : decode cX12_readTruth 27 = .ok (.aload_n 0, 1) := dk_42 (by decide +kernel)
theorem dX12_readTruth_28 : decode cX12_readTruth 28 = .ok (.getfield 149, 3) := dk_180 (by decide +kernel)
theorem dX12_readTruth_31 : decode cX12_readTruth 31 = .ok (.iload_n 1, 1) := dk_27 (by decide +kernel)
theorem dX12_readTruth_32 : decode cX12_readTruth 32 = .ok (.iaload, 1) := dk_46 (by decide +kernel)
theorem dX12_readTruth_33 : decode cX12_readTruth 33 = .ok (.iconst (-1), 1) := dk_2 (by decide +kernel)
theorem dX12_readTruth_34 : decode cX12_readTruth 34 = .ok (.if_icmp .ne 10, 3) := dk_160 (by decide +kernel)
theorem dX12_readTruth_37 : decode cX12_readTruth 37 = .ok (.aload_n 0, 1) := dk_42 (by decide +kernel)
theorem dX12_readTruth_38 : decode cX12_readTruth 38 = .ok (.getfield 580, 3) := dk_180 (by decide +kernel)
theorem dX12_readTruth_41 : decode cX12_readTruth 41 = .ok (.goto 21, 3) := dk_167 (by decide +kernel)
theorem dX12_readTruth_44 : decode cX12_readTruth 44 = .ok (.aload_n 0, 1) := dk_42 (by decide +kernel)
theorem dX12_readTruth_45 : decode cX12_readTruth 45 = .ok (.bipush 11, 2) := dk_16 (by decide +kernel)
theorem dX12_readTruth_47 : decode cX12_readTruth 47 = .ok (.aload_n 0, 1) := dk_42 (by decide +kernel)
theorem dX12_readTruth_48 : decode cX12_readTruth 48 = .ok (.getfield 149, 3) := dk_180 (by decide +kernel)
theorem dX12_readTruth_51 : decode cX12_readTruth 51 = .ok (.iload_n 1, 1) := dk_27 (by decide +kernel)
theorem dX12_readTruth_52 : decode cX12_readTruth 52 = .ok (.iaload, 1) := dk_46 (by decide +kernel)
theorem dX12_readTruth_53 : decode cX12_readTruth 53 = .ok (.aload_n 0, 1) := dk_42 (by decide +kernel)
theorem dX12_readTruth_54 : decode cX12_readTruth 54 = .ok (.getfield 580, 3) := dk_180 (by decide +kernel)
theorem dX12_readTruth_57 : decode cX12_readTruth 57 = .ok (.iconst 0, 1) := dk_3 (by decide +kernel)
theorem dX12_readTruth_58 : decode cX12_readTruth 58 = .ok (.iconst 0, 1) := dk_3 (by decide +kernel)
theorem dX12_readTruth_59 : decode cX12_readTruth 59 = .ok (.invokevirtual 601, 3) := dk_182 (by decide +kernel)
theorem dX12_readTruth_62 : decode cX12_readTruth 62 = .ok (.iastore, 1) := dk_79 (by decide +kernel)
theorem dX12_readTruth_63 : decode cX12_readTruth 63 = .ok (.aload_n 0, 1) := dk_42 (by decide +kernel)
theorem dX12_readTruth_64 : decode cX12_readTruth 64 = .ok (.bipush 9, 2) := dk_16 (by decide +kernel)
theorem dX12_readTruth_66 : decode cX12_readTruth 66 = .ok (.invokevirtual 530, 3) := dk_182 (by decide +kernel)
theorem dX12_readTruth_69 : decode cX12_readTruth 69 = .ok (.ifCond .eq 13, 3) := dk_153 (by decide +kernel)
theorem dX12_readTruth_72 : decode cX12_readTruth 72 = .ok (.aload_n 0, 1) := dk_42 (by decide +kernel)
theorem dX12_readTruth_73 : decode cX12_readTruth 73 = .ok (.invokevirtual 524, 3) := dk_182 (by decide +kernel)
theorem dX12_readTruth_76 : decode cX12_readTruth 76 = .ok (.aload_n 0, 1) := dk_42 (by decide +kernel)
theorem dX12_readTruth_77 : decode cX12_readTruth 77 = .ok (.iconst 3, 1) := dk_6 (by decide +kernel)
theorem dX12_readTruth_78 : decode cX12_readTruth 78 = .ok (.invokevirtual 586, 3) := dk_182 (by decide +kernel)
theorem dX12_readTruth_81 : decode cX12_readTruth 81 = .ok (.return_, 1) := dk_177 (by decide +kernel)
theorem dX12_readTruth_82 : decode cX12_readTruth 82 = .ok (.aload_n 0, 1) := dk_42 (by decide +kernel)
theorem dX12_readTruth_83 : decode cX12_readTruth 83 = .ok (.getfield 146, 3) := dk_180 (by decide +kernel)
theorem dX12_readTruth_86 : decode cX12_readTruth 86 = .ok (.iload_n 1, 1) := dk_27 (by decide +kernel)
theorem dX12_readTruth_87 : decode cX12_readTruth 87 = .ok (.aload_n 0, 1) := dk_42 (by decide +kernel)
theorem dX12_readTruth_88 : decode cX12_readTruth 88 = .ok (.getfield 146, 3) := dk_180 (by decide +kernel)
theorem dX12_readTruth_91 : decode cX12_readTruth 91 = .ok (.iload_n 1, 1) := dk_27 (by decide +kernel)
theorem dX12_readTruth_92 : decode cX12_readTruth 92 = .ok (.iaload, 1) := dk_46 (by decide +kernel)
theorem dX12_readTruth_93 : decode cX12_readTruth 93 = .ok (.iconst (-1), 1) := dk_2 (by decide +kernel)
theorem dX12_readTruth_94 : decode cX12_readTruth 94 = .ok (.if_icmp .ne 12, 3) := dk_160 (by decide +kernel)
theorem dX12_readTruth_97 : decode cX12_readTruth 97 = .ok (.aload_n 0, 1) := dk_42 (by decide +kernel)
theorem dX12_readTruth_98 : decode cX12_readTruth 98 = .ok (.getfield 149, 3) := dk_180 (by decide +kernel)
theorem dX12_readTruth_101 : decode cX12_readTruth 101 = .ok (.iload_n 1, 1) := dk_27 (by decide +kernel)
theorem dX12_readTruth_102 : decode cX12_readTruth 102 = .ok (.iaload, 1) := dk_46 (by decide +kernel)
theorem dX12_readTruth_103 : decode cX12_readTruth 103 = .ok (.goto 23, 3) := dk_167 (by decide +kernel)
theorem dX12_readTruth_106 : decode cX12_readTruth 106 = .ok (.aload_n 0, 1) := dk_42 (by decide +kernel)
theorem dX12_readTruth_107 : decode cX12_readTruth 107 = .ok (.bipush 10, 2) := dk_16 (by decide +kernel)
theorem dX12_readTruth_109 : decode cX12_readTruth 109 = .ok (.aload_n 0, 1) := dk_42 (by decide +kernel)
theorem dX12_readTruth_110 : decode cX12_readTruth 110 = .ok (.getfield 146, 3) := dk_180 (by decide +kernel)
theorem dX12_readTruth_113 : decode cX12_readTruth 113 = .ok (.iload_n 1, 1) := dk_27 (by decide +kernel)
theorem dX12_readTruth_114 : decode cX12_readTruth 114 = .ok (.iaload, 1) := dk_46 (by decide +kernel)
theorem dX12_readTruth_115 : decode cX12_readTruth 115 = .ok (.aload_n 0, 1) := dk_42 (by decide +kernel)
theorem dX12_readTruth_116 : decode cX12_readTruth 116 = .ok (.getfield 149, 3) := dk_180 (by decide +kernel)
theorem dX12_readTruth_119 : decode cX12_readTruth 119 = .ok (.iload_n 1, 1) := dk_27 (by decide +kernel)
theorem dX12_readTruth_120 : decode cX12_readTruth 120 = .ok (.iaload, 1) := dk_46 (by decide +kernel)
theorem dX12_readTruth_121 : decode cX12_readTruth 121 = .ok (.iconst 0, 1) := dk_3 (by decide +kernel)
theorem dX12_readTruth_122 : decode cX12_readTruth 122 = .ok (.iconst 0, 1) := dk_3 (by decide +kernel)
theorem dX12_readTruth_123 : decode cX12_readTruth 123 = .ok (.invokevirtual 601, 3) := dk_182 (by decide +kernel)
theorem dX12_readTruth_126 : decode cX12_readTruth 126 = .ok (.iastore, 1) := dk_79 (by decide +kernel)
theorem dX12_readTruth_127 : decode cX12_readTruth 127 = .ok (.aload_n 0, 1) := dk_42 (by decide +kernel)
theorem dX12_readTruth_128 : decode cX12_readTruth 128 = .ok (.getfield 149, 3) := dk_180 (by decide +kernel)
theorem dX12_readTruth_131 : decode cX12_readTruth 131 = .ok (.iload_n 1, 1) := dk_27 (by decide +kernel)
theorem dX12_readTruth_132 : decode cX12_readTruth 132 = .ok (.iconst (-1), 1) := dk_2 (by decide +kernel)
theorem dX12_readTruth_133 : decode cX12_readTruth 133 = .ok (.iastore, 1) := dk_79 (by decide +kernel)
theorem dX12_readTruth_134 : decode cX12_readTruth 134 = .ok (.aload_n 0, 1) := dk_42 (by decide +kernel)
theorem dX12_readTruth_135 : decode cX12_readTruth 135 = .ok (.bipush 7, 2) := dk_16 (by decide +kernel)
theorem dX12_readTruth_137 : decode cX12_readTruth 137 = .ok (.invokevirtual 530, 3) := dk_182 (by decide +kernel)
theorem dX12_readTruth_140 : decode cX12_readTruth 140 = .ok (.ifCond .eq 13, 3) := dk_153 (by decide +kernel)
theorem dX12_readTruth_143 : decode cX12_readTruth 143 = .ok (.aload_n 0, 1) := dk_42 (by decide +kernel)
theorem dX12_readTruth_144 : decode cX12_readTruth 144 = .ok (.invokevirtual 524, 3) := dk_182 (by decide +kernel)
theorem dX12_readTruth_147 : decode cX12_readTruth 147 = .ok (.aload_n 0, 1) := dk_42 (by decide +kernel)
theorem dX12_readTruth_148 : decode cX12_readTruth 148 = .ok (.iconst 3, 1) := dk_6 (by decide +kernel)
theorem dX12_readTruth_149 : decode cX12_readTruth 149 = .ok (.invokevirtual 586, 3) := dk_182 (by decide +kernel)
theorem dX12_readTruth_152 : decode cX12_readTruth 152 = .ok (.return_, 1) := dk_177 (by decide +kernel)
theorem dX12_readTruth_153 : decode cX12_readTruth 153 = .ok (.aload_n 0, 1) := dk_42 (by decide +kernel)
theorem dX12_readTruth_154 : decode cX12_readTruth 154 = .ok (.aload_n 0, 1) := dk_42 (by decide +kernel)
theorem dX12_readTruth_155 : decode cX12_readTruth 155 = .ok (.getfield 146, 3) := dk_180 (by decide +kernel)
theorem dX12_readTruth_158 : decode cX12_readTruth 158 = .ok (.iload_n 1, 1) := dk_27 (by decide +kernel)
theorem dX12_readTruth_159 : decode cX12_readTruth 159 = .ok (.iaload, 1) := dk_46 (by decide +kernel)
theorem dX12_readTruth_160 : decode cX12_readTruth 160 = .ok (.invokevirtual 605, 3) := dk_182 (by decide +kernel)
theorem dX12_readTruth_163 : decode cX12_readTruth 163 = .ok (.return_, 1) := dk_177 (by decide +kernel)
def wsRX12_readTruth : List Cond := .code yX12_readTruth cX12_readTruth 2 none :: ([.fieldLink RX12 143 "OptimaWorksModel" "step" "[I", .fieldLink RX12 149 "OptimaWorksModel" "got2" "[I", .fieldLink RX12 580 "OptimaWorksModel" "result" "I", .fieldLink RX12 146 "OptimaWorksModel" "got1" "[I"] ++ wsX120 ++ (wsV RX12 601 RX12 yX12_node wsRX12_node) ++ (wsV RX12 530 RX12 yX12_isKey wsRX12_isKey) ++ (wsV RX12 524 RX12 yX12_next wsRX12_next) ++ (wsV RX12 586 RX12 yX12_begin1 wsRX12_begin1) ++ (wsV RX12 605 RX12 yX12_end1 wsRend1w))
theorem iwsRX12_readTruth_in12 : ∀ w ∈ wsX120, w ∈ wsRX12_readTruth := fun _ h => List.mem_cons_of_mem _ (List.mem_append_left _ (List.mem_append_left _ (List.mem_append_left _ (List.mem_append_left _ (List.mem_append_left _ (List.mem_append_right _ h))))))
theorem gwsRX12_readTruth_0 : GoodIn wsRX12_readTruth (wsV RX12 601 RX12 yX12_node wsRX12_node) := goodIn_sub (fun _ h => List.mem_cons_of_mem _ (List.mem_append_left _ (List.mem_append_left _ (List.mem_append_left _ (List.mem_append_left _ (List.mem_append_right _ h)))))) (gdV (by decide +kernel) gdwsRX12_node)
theorem gwsRX12_readTruth_1 : GoodIn wsRX12_readTruth (wsV RX12 530 RX12 yX12_isKey wsRX12_isKey) := goodIn_sub (fun _ h => List.mem_cons_of_mem _ (List.mem_append_left _ (List.mem_append_left _ (List.mem_append_left _ (List.mem_append_right _ h))))) (gdV (by decide +kernel) gdwsRX12_isKey)
theorem gwsRX12_readTruth_2 : GoodIn wsRX12_readTruth (wsV RX12 524 RX12 yX12_next wsRX12_next) := goodIn_sub (fun _ h => List.mem_cons_of_mem _ (List.mem_append_left _ (List.mem_append_left _ (List.mem_append_right _ h)))) (gdV (by decide +kernel) gdwsRX12_next)
theorem gwsRX12_readTruth_3 : GoodIn wsRX12_readTruth (wsV RX12 586 RX12 yX12_begin1 wsRX12_begin1) := goodIn_sub (fun _ h => List.mem_cons_of_mem _ (List.mem_append_left _ (List.mem_append_right _ h))) (gdV (by decide +kernel) gdwsRX12_begin1)
theorem gwsRX12_readTruth_4 : GoodIn wsRX12_readTruth (wsV RX12 605 RX12 yX12_end1 wsRend1w) := goodIn_sub (fun _ h => List.mem_cons_of_mem _ (List.mem_append_right _ h)) (gdV (by decide +kernel) gdwsRend1w)
theorem gdwsRX12_readTruth : wsRX12_readTruth.all goodWord = true := gdC rfl (gdA (gdA (gdA (gdA (gdA (gdA (by decide +kernel : ([.fieldLink RX12 143 "OptimaWorksModel" "step" "[I", .fieldLink RX12 149 "OptimaWorksModel" "got2" "[I", .fieldLink RX12 580 "OptimaWorksModel" "result" "I", .fieldLink RX12 146 "OptimaWorksModel" "got1" "[I"] : List Cond).all goodWord = true) gdwsX120) (gdV (by decide +kernel) gdwsRX12_node)) (gdV (by decide +kernel) gdwsRX12_isKey)) (gdV (by decide +kernel) gdwsRX12_next)) (gdV (by decide +kernel) gdwsRX12_begin1)) (gdV (by decide +kernel) gdwsRend1w))
theorem hm_r_X12_readTruth_0 : (.fieldLink RX12 143 "OptimaWorksModel" "step" "[I" : Cond) ∈ wsRX12_readTruth := by decide +kernel
theorem hm_r_X12_readTruth_1 : (.fieldLink RX12 149 "OptimaWorksModel" "got2" "[I" : Cond) ∈ wsRX12_readTruth := by decide +kernel
theorem hm_r_X12_readTruth_2 : (.fieldLink RX12 580 "OptimaWorksModel" "result" "I" : Cond) ∈ wsRX12_readTruth := by decide +kernel
theorem hm_r_X12_readTruth_3 : (.fieldLink RX12 146 "OptimaWorksModel" "got1" "[I" : Cond) ∈ wsRX12_readTruth := by decide +kernel
set_option maxHeartbeats 4000000 in
set_option maxRecDepth 100000 in
/-- readTruth(d) -/
theorem r_X12_readTruth (l : Launch) (dC : Nat → ClassId) (dI : Nat → Nat → Nat) (a : Nat → Nat) (k : Nat → ClassId) (h0 : Nat) (vi : Nat → Int32) (vj : Nat → Int64) (vF : Nat → Nat → Int32) (vG : Nat → Nat → Int64) (tp : Nat) (an : Nat) (fn : Nat) (nm : Nat) (se : Nat) (pa : Nat) (va : Nat) (bd : Nat) (tT : Nat → Nat → Int32) (gG : RG) (bs : Nat) (r0 : Nat) (dN : Nat) (wi : Nat) (nd : Nat) (mM : Nat) (cw : Nat) (uu : Nat) (pe : Nat) (un : Nat) (gl : Nat) (gm : Nat) (xe : Nat) (p1 : Nat) (n1 : Nat) (m1 : Nat) (tw : Nat) (hTp : vi 16 = nI tp) (htp : tp ≤ 4000) (ha0 : vi 17 = nI an) (hfr : vi 19 = nI fn) (hLx : LxO tp fn an (vi 18) (vi 20)) (hst0 : 0 ≤ (vi 21).toInt) (hnm : vi 25 = nI nm) (hnm40 : nm ≤ 40) (hno : NmO (vF 11) (vF 12) nm) (hNk : NkO (vF 10) (vF 13) nm se pa va) (hbd : vi 30 = nI bd) (hbd60 : bd ≤ 60) (hbo : NmO (vF 14) (vF 15) 60) (hse44 : se ≤ 44) (hRV : RdV tT gG (vF 29) (vF 30) (vF 31) (vF 32) (vF 36) (vF 37) (vF 38) se nd bs) (hRT : RdT tT gG (vF 29) (vF 30) (vF 31) (vF 32) (vF 36) (vF 37) (vF 38) (vF 39) (vF 40) (vF 41) (vF 42) (vF 48) (vi 18) (vi 20) (vi 76) se bs r0 dN wi nd bd fn mM 2 cw uu pe un gl gm xe p1 n1 m1 tw) (hdp : vi 74 = nI (dN + 1)) (hwi : vi 75 = nI wi) (hnd : vi 52 = nI nd) (sz : Nat) : Met l yX12_readTruth wsRX12_readTruth ({ frames := 8, cells := 0, slots := 0, locals := 173 }) (va_Pc [.ref h0, .int (nI dN)] (fun U => U.heap.size = sz ∧ va_P (dC, dI) vwCl (WR a k h0 vi vj vF vG) U.heap ∧ va_K (dC, dI) vwCl (tX12 k) U ∧ va_D (fun _ => True) (WR a k h0 vi vj vF vG) ∧ StrA (va_A (WR a k h0 vi vj vF vG) sz) U U.heap)) (va_Qv (fun (u : (Nat) × (Nat) × (Int32) × (Int32) × (Int32) × (Int32) × (Nat → Int32) × (Nat → Int32) × (Nat → Int32) × (Nat → Int32) × (Nat → Int32) × (Nat → Int32) × (Nat → Int32) × (Nat → Int32) × (Nat → Int32) × (Nat → Int32) × (Nat → Int32) × (Nat → Int32) × (Nat → Int32) × (Nat) × (Nat) × (Nat) × (Int32) × (Int32) × (RG)) => (LxO tp (u.2.1) (u.1) (u.2.2.2.1) (u.2.2.1)) ∧ (fn ≤ (u.2.1)) ∧ (0 ≤ ((u.2.2.2.2.1)).toInt) ∧ (0 < ((u.2.2.2.2.1)).toInt ∨ (RdS tT (u.2.2.2.2.2.2.2.2.2.2.2.2.2.2.2.2.2.2.2.2.2.2.2.2) (u.2.2.2.2.2.2.1) (u.2.2.2.2.2.2.2.1) (u.2.2.2.2.2.2.2.2.1) (u.2.2.2.2.2.2.2.2.2.1) (vF 36) (vF 37) (vF 38) (u.2.2.2.2.2.2.2.2.2.2.2.2.2.1) (u.2.2.2.2.2.2.2.2.2.2.2.2.2.2.1) (u.2.2.2.2.2.2.2.2.2.2.2.2.2.2.2.1) (u.2.2.2.2.2.2.2.2.2.2.2.2.2.2.2.2.1) (u.2.2.2.2.2.2.2.2.2.2.2.2.2.2.2.2.2.2.1) (u.2.2.2.1) (u.2.2.1) (u.2.2.2.2.2.2.2.2.2.2.2.2.2.2.2.2.2.2.2.2.2.2.1) se bs r0 (u.2.2.2.2.2.2.2.2.2.2.2.2.2.2.2.2.2.2.2.1) (u.2.2.2.2.2.2.2.2.2.2.2.2.2.2.2.2.2.2.2.2.1) (u.2.2.2.2.2.2.2.2.2.2.2.2.2.2.2.2.2.2.2.2.2.1) bd (u.2.1) (mM - 1) ∧ Ext 0 bs gG (vF 29) (vF 30) (vF 31) (vF 32) (vF 36) (vF 37) (vF 38) (u.2.2.2.2.2.2.2.2.2.2.2.2.2.2.2.2.2.2.2.2.2.2.2.2) (u.2.2.2.2.2.2.1) (u.2.2.2.2.2.2.2.1) (u.2.2.2.2.2.2.2.2.1) (u.2.2.2.2.2.2.2.2.2.1) (vF 36) (vF 37) (vF 38))) ∧ ((u.2.2.2.2.2.2.2.2.2.2.2.2.2.2.2.2.2.2.2.1) ≤ dN + 2)) (fun (u : (Nat) × (Nat) × (Int32) × (Int32) × (Int32) × (Int32) × (Nat → Int32) × (Nat → Int32) × (Nat → Int32) × (Nat → Int32) × (Nat → Int32) × (Nat → Int32) × (Nat → Int32) × (Nat → Int32) × (Nat → Int32) × (Nat → Int32) × (Nat → Int32) × (Nat → Int32) × (Nat → Int32) × (Nat) × (Nat) × (Nat) × (Int32) × (Int32) × (RG)) t => va_P (dC, dI) vwCl (WR a k h0 (fT (fT (fT (fT (fT (fT (fT (fT (fT (fT (fT vi 52 (nI (u.2.2.2.2.2.2.2.2.2.2.2.2.2.2.2.2.2.2.2.2.2.1))) 17 (nI (u.1))) 19 (nI (u.2.1))) 20 (u.2.2.1)) 18 (u.2.2.2.1)) 75 (nI (u.2.2.2.2.2.2.2.2.2.2.2.2.2.2.2.2.2.2.2.2.1))) 74 (nI (u.2.2.2.2.2.2.2.2.2.2.2.2.2.2.2.2.2.2.2.1))) 21 (u.2.2.2.2.1)) 22 (u.2.2.2.2.2.1)) 76 (u.2.2.2.2.2.2.2.2.2.2.2.2.2.2.2.2.2.2.2.2.2.2.1)) 77 (u.2.2.2.2.2.2.2.2.2.2.2.2.2.2.2.2.2.2.2.2.2.2.2.1)) vj (fT (fT (fT (fT (fT (fT (fT (fT (fT (fT (fT (fT (fT vF 29 (u.2.2.2.2.2.2.1)) 30 (u.2.2.2.2.2.2.2.1)) 31 (u.2.2.2.2.2.2.2.2.1)) 32 (u.2.2.2.2.2.2.2.2.2.1)) 33 (u.2.2.2.2.2.2.2.2.2.2.1)) 34 (u.2.2.2.2.2.2.2.2.2.2.2.1)) 35 (u.2.2.2.2.2.2.2.2.2.2.2.2.1)) 42 (u.2.2.2.2.2.2.2.2.2.2.2.2.2.2.2.2.1)) 39 (u.2.2.2.2.2.2.2.2.2.2.2.2.2.1)) 40 (u.2.2.2.2.2.2.2.2.2.2.2.2.2.2.1)) 41 (u.2.2.2.2.2.2.2.2.2.2.2.2.2.2.2.1)) 47 (u.2.2.2.2.2.2.2.2.2.2.2.2.2.2.2.2.2.1)) 48 (u.2.2.2.2.2.2.2.2.2.2.2.2.2.2.2.2.2.2.1)) vG) t.heap ∧ va_D (va_A (WR a k h0 vi vj vF vG) sz) (WR a k h0 (fT (fT (fT (fT (fT (fT (fT (fT (fT (fT (fT vi 52 (nI (u.2.2.2.2.2.2.2.2.2.2.2.2.2.2.2.2.2.2.2.2.2.1))) 17 (nI (u.1))) 19 (nI (u.2.1))) 20 (u.2.2.1)) 18 (u.2.2.2.1)) 75 (nI (u.2.2.2.2.2.2.2.2.2.2.2.2.2.2.2.2.2.2.2.2.1))) 74 (nI (u.2.2.2.2.2.2.2.2.2.2.2.2.2.2.2.2.2.2.2.1))) 21 (u.2.2.2.2.1)) 22 (u.2.2.2.2.2.1)) 76 (u.2.2.2.2.2.2.2.2.2.2.2.2.2.2.2.2.2.2.2.2.2.2.1)) 77 (u.2.2.2.2.2.2.2.2.2.2.2.2.2.2.2.2.2.2.2.2.2.2.2.1)) vj (fT (fT (fT (fT (fT (fT (fT (fT (fT (fT (fT (fT (fT vF 29 (u.2.2.2.2.2.2.1)) 30 (u.2.2.2.2.2.2.2.1)) 31 (u.2.2.2.2.2.2.2.2.1)) 32 (u.2.2.2.2.2.2.2.2.2.1)) 33 (u.2.2.2.2.2.2.2.2.2.2.1)) 34 (u.2.2.2.2.2.2.2.2.2.2.2.1)) 35 (u.2.2.2.2.2.2.2.2.2.2.2.2.1)) 42 (u.2.2.2.2.2.2.2.2.2.2.2.2.2.2.2.2.1)) 39 (u.2.2.2.2.2.2.2.2.2.2.2.2.2.1)) 40 (u.2.2.2.2.2.2.2.2.2.2.2.2.2.2.1)) 41 (u.2.2.2.2.2.2.2.2.2.2.2.2.2.2.2.1)) 47 (u.2.2.2.2.2.2.2.2.2.2.2.2.2.2.2.2.2.1)) 48 (u.2.2.2.2.2.2.2.2.2.2.2.2.2.2.2.2.2.2.1)) vG)) (va_A (WR a k h0 vi vj vF vG) sz)) 0 0 (va_A (WR a k h0 vi vj vF vG) sz) := by
  refine Met.ofW (cc := cX12_readTruth) (maxL := 2) (ret := none) (by decide) rfl ?_
  intro p e s m args below meth c s₁ B hml hv
  obtain ⟨rfl, hsz, hP, hK, hD0, hE⟩ := hv
  have hx := B.exec
  have hb := B.bytes
  have hr := B.returns
  have hts := atoms_spec (ws := wsRX12_readTruth) B.pre
  have hown : s.vm.findClass RX12 = some m.cls := findClass_of_methodNamed B.named
  have hlocks := B.notSynchronized
  subst hsz
  have hD := hD0.self (sz := s.heap.size)
  generalize hAe : va_A (WR a k h0 vi vj vF vG) s.heap.size = A at hD hE ⊢
  have hA : ∀ q : Nat, s.heap.size ≤ q → A q := fun q h => by rw [← hAe]; exact Or.inr h
  have hS : va_S A s.heap s.heap [] := va_S.rf
  have hl := lv_entry ([.ref h0, .int (nI dN)]) (n := 2) (Nat.le_of_ble_eq_true rfl)
  rw [lg_entry_eq]
  generalize (lg_sl ([.ref h0, .int (nI dN)]) ++ List.replicate (2 - (lg_sl ([.ref h0, .int (nI dN)])).length) Slot.unset).toArray = ls at hl ⊢
  have hl : lv_has ls 2 [(0, .ref h0), (1, .int (nI dN))] := hl
  have hfa := hLx.1
  have han := hLx.2.1
  have han4 : an ≤ 4000 := by omega
  obtain ⟨⟨h39, _, h48⟩, hBel, ⟨h25, hwc⟩, hTq, hc1, hc2, hc3, hc4, hc5, hc6⟩ := hRT
  have hdd := hBel.deep
  refine lv_aload_n hx hb dX12_readTruth_0 rfl (lv_at hl 0 rfl) ?_
  refine va_get (D := (dC, dI)) (ci := 12) (v := .ref (a 40)) (C := RX12) (T := TX12) (N := 163) (fs := fM (vS a vi vj)) hx hb hts iwsRX12_readTruth_in12 hown hK hP 0 rfl rfl 65 (by decide) (hts _ hm_r_X12_readTruth_0) (fun _ h9 => h9) rfl dX12_readTruth_1 ?_
  refine lv_iload_n hx hb dX12_readTruth_4 rfl (lv_at hl 1 rfl) ?_
  refine va_iald (cA := k 40) (n := 120) (f := (vF 40)) hx hb hK hP 41 40 (WR_get 40 (by decide)) (TR_get 40 (by decide)) (vp_in_nI (show dN < 120 by omega) (by omega)) dX12_readTruth_5 ?_
  refine lv_topi (fun y1 hy1 => ?_)
  obtain rfl : ((vF 40) dN) = y1 := (hy1.trans (by rw [nI_clamp (by omega)])).symm
  refine lv_if_ne (tgt := 22) hx hb dX12_readTruth_6 (by decide) (fun c_6 => ?_) (fun c_6 => ?_)
  · have t_6 : (((vF 40) dN)).toInt ≠ 0 := toI_ne c_6 rfl (by decide)
    obtain ⟨hq0, hq1, hq2, hq3, hq4, hq5, qa, qb, cR, hO1, hO2, hp1, hres, hcR⟩ := hTq.truth.resolve_left (fun h => c_6 h.1)
    have hK0 := RdK.first (gl := gl) hRV (by omega)
    refine lv_aload_n hx hb dX12_readTruth_22 rfl (lv_at hl 0 rfl) ?_
    refine va_get (D := (dC, dI)) (ci := 12) (v := .ref (a 42)) (C := RX12) (T := TX12) (N := 163) (fs := fM (vS a vi vj)) hx hb hts iwsRX12_readTruth_in12 hown hK hP 0 rfl rfl 67 (by decide) (hts _ hm_r_X12_readTruth_1) (fun _ h9 => h9) rfl dX12_readTruth_23 ?_
    refine lv_iload_n hx hb dX12_readTruth_26 rfl (lv_at hl 1 rfl) ?_
    refine lv_aload_n hx hb dX12_readTruth_27 rfl (lv_at hl 0 rfl) ?_
    refine va_get (D := (dC, dI)) (ci := 12) (v := .ref (a 42)) (C := RX12) (T := TX12) (N := 163) (fs := fM (vS a vi vj)) hx hb hts iwsRX12_readTruth_in12 hown hK hP 0 rfl rfl 67 (by decide) (hts _ hm_r_X12_readTruth_1) (fun _ h9 => h9) rfl dX12_readTruth_28 ?_
    refine lv_iload_n hx hb dX12_readTruth_31 rfl (lv_at hl 1 rfl) ?_
    refine va_iald (cA := k 42) (n := 120) (f := (vF 42)) hx hb hK hP 43 42 (WR_get 42 (by decide)) (TR_get 42 (by decide)) (vp_in_nI (show dN < 120 by omega) (by omega)) dX12_readTruth_32 ?_
    refine lv_topi (fun y2 hy2 => ?_)
    obtain rfl : ((vF 42) dN) = y2 := (hy2.trans (by rw [nI_clamp (by omega)])).symm
    refine lv_iconst (v := (-1)) hx hb dX12_readTruth_33 (by decide) ?_
    refine W.cut (pc := 62) (fun H locs ls stk => ∃ (c3 : Nat) (G3 : RG) (nd3 : Nat) (a29 : Nat → Int32) (a30 : Nat → Int32) (a31 : Nat → Int32) (a32 : Nat → Int32) (a33 : Nat → Int32) (a34 : Nat → Int32) (a35 : Nat → Int32), (RdK tT gG (vF 29) (vF 30) (vF 31) (vF 32) (vF 36) (vF 37) (vF 38) G3 a29 a30 a31 a32 (vF 36) (vF 37) (vF 38) se nd3 bs gl) ∧ (TruO G3 a29 c3 (51 - 2 * (cw + xe))) ∧ (nd3 + pe + qa ≤ fn ∧ G3.vN + un ≤ nd3) ∧  stk = [.int (nI c3), .int (nI dN), .ref (a 42)] ∧ va_P (dC, dI) vwCl (WR a k h0 (fT vi 52 (nI nd3)) vj (fT (fT (fT (fT (fT (fT (fT vF 29 a29) 30 a30) 31 a31) 32 a32) 33 a33) 34 a34) 35 a35) vG) H ∧ va_D A (WR a k h0 (fT vi 52 (nI nd3)) vj (fT (fT (fT (fT (fT (fT (fT vF 29 a29) 30 a30) 31 a31) 32 a32) 33 a33) 34 a34) 35 a35) vG) ∧ va_S A s.heap H locs ∧ lv_has ls 2 [(0, .ref h0), (1, .int (nI dN))]) (fun join1 => ?_) ?_
    · refine lv_icmp_ne (tgt := 44) hx hb dX12_readTruth_34 (by decide) (fun c_34 => ?_) (fun c_34 => ?_)
      · have t_34 : (((vF 42) dN)).toInt ≠ -1 := toI_ne c_34 rfl (by decide)
        obtain ⟨hb1, cO, hcO, hcL⟩ := hO2.resolve_left (fun h => c_34 h.1)
        refine lv_aload_n hx hb dX12_readTruth_44 rfl (lv_at hl 0 rfl) ?_
        refine lv_bipush (v := 11) hx hb dX12_readTruth_45 (by decide) ?_
        refine lv_aload_n hx hb dX12_readTruth_47 rfl (lv_at hl 0 rfl) ?_
        refine va_get (D := (dC, dI)) (ci := 12) (v := .ref (a 42)) (C := RX12) (T := TX12) (N := 163) (fs := fM (vS a vi vj)) hx hb hts iwsRX12_readTruth_in12 hown hK hP 0 rfl rfl 67 (by decide) (hts _ hm_r_X12_readTruth_1) (fun _ h9 => h9) rfl dX12_readTruth_48 ?_
        refine lv_iload_n hx hb dX12_readTruth_51 rfl (lv_at hl 1 rfl) ?_
        refine va_iald (cA := k 42) (n := 120) (f := (vF 42)) hx hb hK hP 43 42 (WR_get 42 (by decide)) (TR_get 42 (by decide)) (vp_in_nI (show dN < 120 by omega) (by omega)) dX12_readTruth_52 ?_
        refine lv_topi (fun y3 hy3 => ?_)
        obtain rfl : ((vF 42) dN) = y3 := (hy3.trans (by rw [nI_clamp (by omega)])).symm
        refine lv_topi (fun y4 hy4 => ?_)
        obtain rfl : (nI cO) = y4 := (hy4.trans (hcO)).symm
        refine lv_aload_n hx hb dX12_readTruth_53 rfl (lv_at hl 0 rfl) ?_
        refine va_get (D := (dC, dI)) (ci := 12) (v := .int (vi 76)) (C := RX12) (T := TX12) (N := 163) (fs := fM (vS a vi vj)) hx hb hts iwsRX12_readTruth_in12 hown hK hP 0 rfl rfl 76 (by decide) (hts _ hm_r_X12_readTruth_2) (fun _ h9 => h9) rfl dX12_readTruth_54 ?_
        refine lv_topi (fun y5 hy5 => ?_)
        obtain rfl : (nI cR) = y5 := (hy5.trans (hres)).symm
        refine lv_iconst (v := 0) hx hb dX12_readTruth_57 (by decide) ?_
        refine lv_iconst (v := 0) hx hb dX12_readTruth_58 (by decide) ?_
        have hFc := allFree hD hS hA
        refine va_calli (va_runV (As := [.int 11, .int (nI cO), .int (nI cR), .int 0, .int 0]) (rest := [.int (nI dN), .ref (a 42)]) ⟨hx, hb, hml, hown, hts⟩ (r_X12_node l dC dI a k h0 vi vj vF vG nd 11 (nI cO) (nI cR) 0 0 hnd (by first | with_reducible assumption | decide | omega | rfl | assumption) s.heap.size) (cwV 5 hts gwsRX12_readTruth_0 rfl rfl rfl hd_yX12_node_RX12 (by decide +kernel)) (fz_pre (va_recv hK hP (ci := 12) (q0 := 0) rfl rfl) hP hK hD) rfl rfl hl.1 rfl (lv_room (Nat.le_of_ble_eq_true rfl)) dX12_readTruth_59 (by decide +kernel)) hS (fun q _ h => hFc q h) hFc (fun r59 u t9_ H locs ht hvm hw9 hB9 hz1 hk1 hS => ?_)
        have hP : va_P (dC, dI) vwCl (WR a k h0 (fT vi 52 (nI (nd + 1))) vj (fT (fT (fT (fT (fT (fT (fT vF 29 (upd (vF 29) (nI nd).toNatClampNeg 11)) 30 (upd (vF 30) (nI nd).toNatClampNeg (nI cO))) 31 (upd (vF 31) (nI nd).toNatClampNeg (nI cR))) 32 (upd (vF 32) (nI nd).toNatClampNeg 0)) 33 (upd (vF 33) (nI nd).toNatClampNeg 0)) 34 (upd (vF 34) (nI nd).toNatClampNeg 0)) 35 (upd (vF 35) (nI nd).toNatClampNeg 0)) vG) H := fz_P ht hB9.1
        have hD := fz_sd hP (hB9.2.weaken (fun _ q _ h => hFc q.1 h)) rfl
        obtain rfl := hw9
        have hl : lv_has _ _ ([(0, .ref h0), (1, .int (nI dN))]) := lv_sub hl [0, 1] rfl
        exact join1 _ _ _ _ ⟨nd, (gG.add nd (gG.wt cO + gG.wt cR + 3) (51 - 2 * (cw + xe)) 0), (nd + 1), (upd (vF 29) (nI nd).toNatClampNeg 11), (upd (vF 30) (nI nd).toNatClampNeg (nI cO)), (upd (vF 31) (nI nd).toNatClampNeg (nI cR)), (upd (vF 32) (nI nd).toNatClampNeg 0), (upd (vF 33) (nI nd).toNatClampNeg 0), (upd (vF 34) (nI nd).toNatClampNeg 0), (upd (vF 35) (nI nd).toNatClampNeg 0), (hK0.mkJoin (cv := 0) (kv := 11) (by omega) (show (11 : Int32) = nI 11 by decide) (Or.inr rfl) rfl rfl hcL hcR (Nat.le_refl _) (Nat.le_refl _)).1, (hK0.mkJoin (cv := 0) (kv := 11) (by omega) (show (11 : Int32) = nI 11 by decide) (Or.inr rfl) rfl rfl hcL hcR (Nat.le_refl _) (Nat.le_refl _)).2, by show nd + 1 + pe + qa ≤ fn ∧ gG.vN + 1 + un ≤ nd + 1; omega, rfl, hP, hD, hS, hl⟩
      · have t_34 : (((vF 42) dN)).toInt = -1 := toI_nne c_34 rfl (by decide)
        refine lv_aload_n hx hb dX12_readTruth_37 rfl (lv_at hl 0 rfl) ?_
        refine va_get (D := (dC, dI)) (ci := 12) (v := .int (vi 76)) (C := RX12) (T := TX12) (N := 163) (fs := fM (vS a vi vj)) hx hb hts iwsRX12_readTruth_in12 hown hK hP 0 rfl rfl 76 (by decide) (hts _ hm_r_X12_readTruth_2) (fun _ h9 => h9) rfl dX12_readTruth_38 ?_
        refine lv_topi (fun y6 hy6 => ?_)
        obtain rfl : (nI cR) = y6 := (hy6.trans (hres)).symm
        refine lv_goto (tgt := 62) hx hb dX12_readTruth_41 (by decide) ?_
        have e9 : fT vi 52 (nI nd) = vi := by funext q9; by_cases h9_52 : q9 = 52; (subst h9_52; exact (fT_eq _ _ _).trans (Eq.trans (by first | with_reducible rfl | with_reducible assumption | (symm; with_reducible assumption) | rfl | assumption | (symm; assumption) | (subst_vars; rfl)) (Eq.refl _).symm)); exact (fT_ne _ _ h9_52).trans (Eq.refl _).symm
        have hP := wr_Pi e9 hP
        have hD := wr_Di e9 hD
        clear e9
        have e9 : fT (fT (fT (fT (fT (fT (fT vF 29 (vF 29)) 30 (vF 30)) 31 (vF 31)) 32 (vF 32)) 33 (vF 33)) 34 (vF 34)) 35 (vF 35) = vF := ch_E vF [] [(35, 0), (34, 0), (33, 0), (32, 0), (31, 0), (30, 0), (29, 0)] [] [] trivial (by decide +kernel)
        have hP := wr_PF e9 hP
        have hD := wr_DF e9 hD
        clear e9
        have hl : lv_has _ _ ([(0, .ref h0), (1, .int (nI dN))]) := lv_sub hl [0, 1] rfl
        exact join1 _ _ _ _ ⟨cR, gG, nd, (vF 29), (vF 30), (vF 31), (vF 32), (vF 33), (vF 34), (vF 35), hK0, hcR, by (have hqb : qb = 0 := by (rcases hO2 with h9 | ⟨_, cO, h8, h9⟩); (exact h9.2); (exact absurd (h8.symm.trans c_34) (nIm1 (hRV.lt h9.1)))); omega, rfl, hP, hD, hS, hl⟩
    · rintro H locs ls stk ⟨c3, G3, nd3, a29, a30, a31, a32, a33, a34, a35, hK3, hL3, hn3, rfl, hP, hD, hS, hl⟩
      refine va_iast (cA := k 42) (n := 120) (f := (vF 42)) hx hb hK hP hD hS 43 42 (WR_get 42 (by decide)) (TR_get 42 (by decide)) (vp_in_nI (show dN < 120 by omega) (by omega)) dX12_readTruth_62 (fun H locs hP hD hS => ?_)
      have hP : va_P (dC, dI) vwCl (WR a k h0 (fT vi 52 (nI nd3)) vj (fT (fT (fT (fT (fT (fT (fT (fT vF 29 a29) 30 a30) 31 a31) 32 a32) 33 a33) 34 a34) 35 a35) 42 (upd (vF 42) ((nI dN)).toNatClampNeg (nI c3))) vG) H := fz_w (WR_F 42 (by decide) _ rfl) hP
      have hD : va_D A (WR a k h0 (fT vi 52 (nI nd3)) vj (fT (fT (fT (fT (fT (fT (fT (fT vF 29 a29) 30 a30) 31 a31) 32 a32) 33 a33) 34 a34) 35 a35) 42 (upd (vF 42) ((nI dN)).toNatClampNeg (nI c3))) vG) := fz_wD (WR_F 42 (by decide) _ rfl) hD
      refine lv_aload_n hx hb dX12_readTruth_63 rfl (lv_at hl 0 rfl) ?_
      refine lv_bipush (v := 9) hx hb dX12_readTruth_64 (by decide) ?_
      have hFc := allFree hD hS hA
      refine va_calli (va_runV (As := [.int 9]) (rest := []) ⟨hx, hb, hml, hown, hts⟩ (r_X12_isKey l dC dI a k h0 (fT vi 52 (nI nd3)) vj (fT (fT (fT (fT (fT (fT (fT (fT vF 29 a29) 30 a30) 31 a31) 32 a32) 33 a33) 34 a34) 35 a35) 42 (upd (vF 42) ((nI dN)).toNatClampNeg (nI c3))) vG 9 H.size) (cwV 1 hts gwsRX12_readTruth_1 rfl rfl rfl hd_yX12_isKey_RX12 (by decide +kernel)) (fz_pre (va_recv hK hP (ci := 12) (q0 := 0) rfl rfl) hP hK hD) rfl rfl hl.1 rfl (lv_room (Nat.le_of_ble_eq_true rfl)) dX12_readTruth_66 (by decide +kernel)) hS (fun q _ h => hFc q h) hFc (fun r66 u t9_ H locs ht hvm hw9 hB9 hz1 hk1 hS => ?_)
      have hP : va_P (dC, dI) vwCl (WR a k h0 (fT vi 52 (nI nd3)) vj (fT (fT (fT (fT (fT (fT (fT (fT vF 29 a29) 30 a30) 31 a31) 32 a32) 33 a33) 34 a34) 35 a35) 42 (upd (vF 42) ((nI dN)).toNatClampNeg (nI c3))) vG) H := fz_P ht hB9.1
      have hD := fz_sd hP (hB9.2.weaken (fun _ q _ h => hFc q.1 h)) rfl
      rcases hw9 with ⟨rfl, f66_0, f66_1⟩ | ⟨rfl, f66_0⟩
      · have f66_0 : (vi 18).toInt = 2 := f66_0
        have f66_1 : (vi 20) = 9 := f66_1
        refine lv_if_eq (tgt := 82) hx hb dX12_readTruth_69 (by decide) (fun c9 => absurd c9 (by decide)) (fun _ => ?_)
        have hfl : fn < an := hLx.2.2.1.resolve_left (fun h => by first | (rw [h] at f66_0; exact absurd f66_0 (by decide)))
        refine lv_aload_n hx hb dX12_readTruth_72 rfl (lv_at hl 0 rfl) ?_
        have hFc := allFree hD hS hA
        refine va_callv (va_runV (As := []) (rest := []) ⟨hx, hb, hml, hown, hts⟩ (r_X12_next l dC dI a k h0 (fT vi 52 (nI nd3)) vj (fT (fT (fT (fT (fT (fT (fT (fT vF 29 a29) 30 a30) 31 a31) 32 a32) 33 a33) 34 a34) 35 a35) 42 (upd (vF 42) ((nI dN)).toNatClampNeg (nI c3))) vG tp an hTp (by first | with_reducible assumption | decide | omega | rfl | assumption) ha0 (by first | with_reducible assumption | decide | omega | rfl | assumption) H.size) (cwV 0 hts gwsRX12_readTruth_2 rfl rfl rfl hd_yX12_next_RX12 (by decide +kernel)) (fz_preE (va_recv hK hP (ci := 12) (q0 := 0) rfl rfl) hP hK hD (fun a U g mk qE => qE.same rfl) (fun U hU9 hW => by rw [hU9]; exact (((hE : StrA A s s.heap).kept hS.2.1).narrow (fun q h => hFc q h)).warm hW)) rfl rfl hl.1 rfl (lv_room (Nat.le_of_ble_eq_true rfl)) dX12_readTruth_73 (by decide +kernel)) hS (fun q _ h => hFc q h) hFc (fun u t9_ H locs ht hvm hw9 hB9 hz1 hk1 hS => ?_)
        revert u hw9 hB9
        refine fz_p4 ?_
        intro a273 f273 sg73 wd73 hw9 hB9
        try dsimp only at hw9 hB9
        have hP : va_P (dC, dI) vwCl (WR a k h0 (fT (fT (fT (fT (fT vi 52 (nI nd3)) 17 (nI a273)) 19 (nI f273)) 20 sg73) 18 wd73) vj (fT (fT (fT (fT (fT (fT (fT (fT vF 29 a29) 30 a30) 31 a31) 32 a32) 33 a33) 34 a34) 35 a35) 42 (upd (vF 42) ((nI dN)).toNatClampNeg (nI c3))) vG) H := fz_P ht hB9.1
        have hD := fz_sd hP (hB9.2.weaken (fun _ q _ h => hFc q.1 h)) rfl
        revert hw9
        refine fz_a2 ?_
        intro f73_0 f73_1
        have hl1 := f73_0.1
        have hl2 := f73_0.2.1
        refine lv_aload_n hx hb dX12_readTruth_76 rfl (lv_at hl 0 rfl) ?_
        refine lv_iconst (v := 3) hx hb dX12_readTruth_77 (by decide) ?_
        have hFc := allFree hD hS hA
        refine va_callv (va_runV (As := [.int 3]) (rest := []) ⟨hx, hb, hml, hown, hts⟩ (r_X12_begin1 l dC dI a k h0 (fT (fT (fT (fT (fT vi 52 (nI nd3)) 17 (nI a273)) 19 (nI f273)) 20 sg73) 18 wd73) vj (fT (fT (fT (fT (fT (fT (fT (fT vF 29 a29) 30 a30) 31 a31) 32 a32) 33 a33) 34 a34) 35 a35) 42 (upd (vF 42) ((nI dN)).toNatClampNeg (nI c3))) vG 3 tp a273 f273 nm se pa va bd (dN + 1) wi hTp (by first | with_reducible assumption | decide | omega | rfl | assumption) rfl rfl (f73_0) (by first | with_reducible assumption | decide | omega | rfl | assumption) hnm (by first | with_reducible assumption | decide | omega | rfl | assumption) (by first | with_reducible assumption | decide | omega | rfl | assumption) (by first | with_reducible assumption | decide | omega | rfl | assumption) hbd (by first | with_reducible assumption | decide | omega | rfl | assumption) (by first | with_reducible assumption | decide | omega | rfl | assumption) (hdp) (by first | with_reducible assumption | decide | omega | rfl | assumption) hwi (by first | with_reducible assumption | decide | omega | rfl | assumption) H.size) (cwV 1 hts gwsRX12_readTruth_3 rfl rfl rfl hd_yX12_begin1_RX12 (by decide +kernel)) (fz_pre (va_recv hK hP (ci := 12) (q0 := 0) rfl rfl) hP hK hD) rfl rfl hl.1 rfl (lv_room (Nat.le_of_ble_eq_true rfl)) dX12_readTruth_78 (by decide +kernel)) hS (fun q _ h => hFc q h) hFc (fun u t9_ H locs ht hvm hw9 hB9 hz1 hk1 hS => ?_)
        revert u hw9 hB9
        refine fz_p10 ?_
        intro s278 p278 g3978 g4078 g4178 g4278 g4778 g4878 d278 w278 hw9 hB9
        try dsimp only at hw9 hB9
        have e9F : fT (fT (fT (fT (fT (fT (fT (fT (fT (fT (fT (fT (fT vF 29 a29) 30 a30) 31 a31) 32 a32) 33 a33) 34 a34) 35 a35) 42 g4278) 39 g3978) 40 g4078) 41 g4178) 47 g4778) 48 g4878 = fT (fT (fT (fT (fT (fT (fT (fT (fT (fT (fT (fT (fT (fT vF 29 a29) 30 a30) 31 a31) 32 a32) 33 a33) 34 a34) 35 a35) 42 (upd (vF 42) ((nI dN)).toNatClampNeg (nI c3))) 39 g3978) 40 g4078) 41 g4178) 42 g4278) 47 g4778) 48 g4878 := (congrArg (fun g9 => fT (fT g9 47 g4778) 48 g4878) ((fT_sw _ _ _ (Nat.ne_of_beq_eq_false rfl)).trans (congrArg (fun g9 => fT g9 41 g4178) ((fT_sw _ _ _ (Nat.ne_of_beq_eq_false rfl)).trans (congrArg (fun g9 => fT g9 40 g4078) ((fT_sw _ _ _ (Nat.ne_of_beq_eq_false rfl)).trans (congrArg (fun g9 => fT g9 39 g3978) (fT_sm _ _ _ _)))))))).symm
        have hP := wr_PF e9F (fz_P ht hB9.1)
        have hD := wr_DF e9F (hB9.2.weaken (fun _ q _ h => hFc q.1 h))
        clear e9F
        revert hw9
        refine fz_a4 ?_
        intro f78_0 f78_1 f78_2 f78_3
        have f78_1 : 0 < (s278).toInt ∨ (s278 = (vi 21) ∧ BgO 3 wd73 sg73 g3978 g4078 g4178 g4278 g4878 (dN + 1) wi d278 w278) := f78_1
        have f78_2 : FrmO (dN + 1) (vF 39) (vF 40) (vF 41) (upd (vF 42) ((nI dN)).toNatClampNeg (nI c3)) (vF 48) g3978 g4078 g4178 g4278 g4878 := f78_2
        refine W.widen (k := 0) (n := 0) (by decide +kernel) (by decide +kernel) ?_
        have e9 : fT (fT (fT (fT (fT (fT (fT (fT (fT (fT (fT vi 52 (nI nd3)) 17 (nI a273)) 19 (nI f273)) 20 sg73) 18 wd73) 75 (nI w278)) 74 (nI d278)) 21 s278) 22 p278) 76 (vi 76)) 77 (vi 77) = fT (fT (fT (fT (fT (fT (fT (fT (fT vi 52 (nI nd3)) 17 (nI a273)) 19 (nI f273)) 20 sg73) 18 wd73) 75 (nI w278)) 74 (nI d278)) 21 s278) 22 p278 := ch_E vi [nI nd3, nI a273, nI f273, sg73, wd73, nI w278, nI d278, s278, p278] [(77, 0), (76, 0), (22, 9), (21, 8), (74, 7), (75, 6), (18, 5), (20, 4), (19, 3), (17, 2), (52, 1)] [(22, 9), (21, 8), (74, 7), (75, 6), (18, 5), (20, 4), (19, 3), (17, 2), (52, 1)] [] trivial (by decide +kernel)
        have hP := wr_Pi e9 hP
        have hD := wr_Di e9 hD
        clear e9
        exact W.vret hx hb hr (fun t9_ ht hW => ⟨⟨(a273, f273, sg73, wd73, s278, p278, a29, a30, a31, a32, a33, a34, a35, g3978, g4078, g4178, g4278, g4778, g4878, d278, w278, nd3, (vi 76), (vi 77), G3), rfl, by (try dsimp only); exact ⟨f73_0, by omega, f78_0, by rcases f78_1 with h9 | h9; (exact Or.inl h9); (exact Or.inr ⟨RdS.push (gm := gl) hK3.1 hBel hK3.2.1 (Nat.le_refl _) (fun q hq => ⟨rfl, rfl, rfl, by rw [upd_at (by omega), if_neg (by omega)], rfl⟩) h39 (by decide) h48 (by omega) ⟨⟨by omega, fun _ => by omega, fun _ => by omega, Nat.le_refl _⟩, Or.inr (Or.inr (Or.inr (Or.inr (Or.inr (Or.inr (Or.inr (Or.inl ⟨rfl, rfl, hq0, rfl, rfl, qa, 1, hK3.2.1.opT hO1, Or.inr ⟨rfl, c3, by rw [upd_at (by omega), if_pos rfl], hL3⟩, rfl⟩)))))))⟩ f78_2 (by rw [← hwc]; exact h9.2) (show (3 : Int32) = nI 3 by decide) (by decide) (by omega) (by omega) (by omega) (by omega) hK3.2.2.2 (by show 10 * (4000 - _) + dN + 1 + 5 ≤ mM - 1; omega), hK3.2.1.less (Nat.zero_le _)⟩), by omega⟩, by rw [ht]; exact hP, hD⟩, hS.F ht⟩) hS.2.2 dX12_readTruth_81
      · have f66_0 : ¬ ((vi 18).toInt = 2 ∧ (vi 20) = 9) := f66_0
        refine lv_if_eq (tgt := 82) hx hb dX12_readTruth_69 (by decide) (fun _ => ?_) (fun c9 => absurd (by decide) c9)
        refine lv_aload_n hx hb dX12_readTruth_82 rfl (lv_at hl 0 rfl) ?_
        refine va_get (D := (dC, dI)) (ci := 12) (v := .ref (a 41)) (C := RX12) (T := TX12) (N := 163) (fs := fM (vS a (fT vi 52 (nI nd3)) vj)) hx hb hts iwsRX12_readTruth_in12 hown hK hP 0 rfl rfl 66 (by decide) (hts _ hm_r_X12_readTruth_3) (fun _ h9 => h9) rfl dX12_readTruth_83 ?_
        refine lv_iload_n hx hb dX12_readTruth_86 rfl (lv_at hl 1 rfl) ?_
        refine lv_aload_n hx hb dX12_readTruth_87 rfl (lv_at hl 0 rfl) ?_
        refine va_get (D := (dC, dI)) (ci := 12) (v := .ref (a 41)) (C := RX12) (T := TX12) (N := 163) (fs := fM (vS a (fT vi 52 (nI nd3)) vj)) hx hb hts iwsRX12_readTruth_in12 hown hK hP 0 rfl rfl 66 (by decide) (hts _ hm_r_X12_readTruth_3) (fun _ h9 => h9) rfl dX12_readTruth_88 ?_
        refine lv_iload_n hx hb dX12_readTruth_91 rfl (lv_at hl 1 rfl) ?_
        refine va_iald (cA := k 41) (n := 120) (f := (vF 41)) hx hb hK hP 42 41 (WR_get 41 (by decide)) (TR_get 41 (by decide)) (vp_in_nI (show dN < 120 by omega) (by omega)) dX12_readTruth_92 ?_
        refine lv_topi (fun y7 hy7 => ?_)
        obtain rfl : ((vF 41) dN) = y7 := (hy7.trans (by rw [nI_clamp (by omega)])).symm
        refine lv_iconst (v := (-1)) hx hb dX12_readTruth_93 (by decide) ?_
        refine W.cut (pc := 126) (fun H locs ls stk => ∃ (c1 : Nat) (G4 : RG) (nd4 : Nat) (b29 : Nat → Int32) (b30 : Nat → Int32) (b31 : Nat → Int32) (b32 : Nat → Int32) (b33 : Nat → Int32) (b34 : Nat → Int32) (b35 : Nat → Int32), (RdK tT gG (vF 29) (vF 30) (vF 31) (vF 32) (vF 36) (vF 37) (vF 38) G4 b29 b30 b31 b32 (vF 36) (vF 37) (vF 38) se nd4 bs gl) ∧ (TruO G4 b29 c1 (51 - 2 * (cw + xe))) ∧ (nd4 + pe ≤ fn ∧ G4.vN + un ≤ nd4) ∧  stk = [.int (nI c1), .int (nI dN), .ref (a 41)] ∧ va_P (dC, dI) vwCl (WR a k h0 (fT vi 52 (nI nd4)) vj (fT (fT (fT (fT (fT (fT (fT (fT vF 29 b29) 30 b30) 31 b31) 32 b32) 33 b33) 34 b34) 35 b35) 42 (upd (vF 42) ((nI dN)).toNatClampNeg (nI c3))) vG) H ∧ va_D A (WR a k h0 (fT vi 52 (nI nd4)) vj (fT (fT (fT (fT (fT (fT (fT (fT vF 29 b29) 30 b30) 31 b31) 32 b32) 33 b33) 34 b34) 35 b35) 42 (upd (vF 42) ((nI dN)).toNatClampNeg (nI c3))) vG) ∧ va_S A s.heap H locs ∧ lv_has ls 2 [(0, .ref h0), (1, .int (nI dN))]) (fun join2 => ?_) ?_
        · refine lv_icmp_ne (tgt := 106) hx hb dX12_readTruth_94 (by decide) (fun c_94 => ?_) (fun c_94 => ?_)
          · have t_94 : (((vF 41) dN)).toInt ≠ -1 := toI_ne c_94 rfl (by decide)
            obtain ⟨ha1, cP, hcP, hcPL⟩ := hO1.resolve_left (fun h => c_94 h.1)
            refine lv_aload_n hx hb dX12_readTruth_106 rfl (lv_at hl 0 rfl) ?_
            refine lv_bipush (v := 10) hx hb dX12_readTruth_107 (by decide) ?_
            refine lv_aload_n hx hb dX12_readTruth_109 rfl (lv_at hl 0 rfl) ?_
            refine va_get (D := (dC, dI)) (ci := 12) (v := .ref (a 41)) (C := RX12) (T := TX12) (N := 163) (fs := fM (vS a (fT vi 52 (nI nd3)) vj)) hx hb hts iwsRX12_readTruth_in12 hown hK hP 0 rfl rfl 66 (by decide) (hts _ hm_r_X12_readTruth_3) (fun _ h9 => h9) rfl dX12_readTruth_110 ?_
            refine lv_iload_n hx hb dX12_readTruth_113 rfl (lv_at hl 1 rfl) ?_
            refine va_iald (cA := k 41) (n := 120) (f := (vF 41)) hx hb hK hP 42 41 (WR_get 41 (by decide)) (TR_get 41 (by decide)) (vp_in_nI (show dN < 120 by omega) (by omega)) dX12_readTruth_114 ?_
            refine lv_topi (fun y8 hy8 => ?_)
            obtain rfl : ((vF 41) dN) = y8 := (hy8.trans (by rw [nI_clamp (by omega)])).symm
            refine lv_topi (fun y9 hy9 => ?_)
            obtain rfl : (nI cP) = y9 := (hy9.trans (hcP)).symm
            refine lv_aload_n hx hb dX12_readTruth_115 rfl (lv_at hl 0 rfl) ?_
            refine va_get (D := (dC, dI)) (ci := 12) (v := .ref (a 42)) (C := RX12) (T := TX12) (N := 163) (fs := fM (vS a (fT vi 52 (nI nd3)) vj)) hx hb hts iwsRX12_readTruth_in12 hown hK hP 0 rfl rfl 67 (by decide) (hts _ hm_r_X12_readTruth_1) (fun _ h9 => h9) rfl dX12_readTruth_116 ?_
            refine lv_iload_n hx hb dX12_readTruth_119 rfl (lv_at hl 1 rfl) ?_
            refine va_iald (cA := k 42) (n := 120) (f := (upd (vF 42) ((nI dN)).toNatClampNeg (nI c3))) hx hb hK hP 43 42 (WR_get 42 (by decide)) (TR_get 42 (by decide)) (vp_in_nI (show dN < 120 by omega) (by omega)) dX12_readTruth_120 ?_
            refine lv_topi (fun y10 hy10 => ?_)
            obtain rfl : ((upd (vF 42) ((nI dN)).toNatClampNeg (nI c3)) dN) = y10 := (hy10.trans (by rw [nI_clamp (by omega)])).symm
            refine lv_topi (fun y11 hy11 => ?_)
            obtain rfl : (nI c3) = y11 := (hy11.trans (by rw [upd_at (by omega), if_pos rfl])).symm
            refine lv_iconst (v := 0) hx hb dX12_readTruth_121 (by decide) ?_
            refine lv_iconst (v := 0) hx hb dX12_readTruth_122 (by decide) ?_
            have hFc := allFree hD hS hA
            refine va_calli (va_runV (As := [.int 10, .int (nI cP), .int (nI c3), .int 0, .int 0]) (rest := [.int (nI dN), .ref (a 41)]) ⟨hx, hb, hml, hown, hts⟩ (r_X12_node l dC dI a k h0 (fT vi 52 (nI nd3)) vj (fT (fT (fT (fT (fT (fT (fT (fT vF 29 a29) 30 a30) 31 a31) 32 a32) 33 a33) 34 a34) 35 a35) 42 (upd (vF 42) ((nI dN)).toNatClampNeg (nI c3))) vG nd3 10 (nI cP) (nI c3) 0 0 rfl (by first | with_reducible assumption | decide | omega | rfl | assumption) H.size) (cwV 5 hts gwsRX12_readTruth_0 rfl rfl rfl hd_yX12_node_RX12 (by decide +kernel)) (fz_pre (va_recv hK hP (ci := 12) (q0 := 0) rfl rfl) hP hK hD) rfl rfl hl.1 rfl (lv_room (Nat.le_of_ble_eq_true rfl)) dX12_readTruth_123 (by decide +kernel)) hS (fun q _ h => hFc q h) hFc (fun r123 u t9_ H locs ht hvm hw9 hB9 hz1 hk1 hS => ?_)
            have e9i : fT vi 52 (nI (nd3 + 1)) = fT (fT vi 52 (nI nd3)) 52 (nI (nd3 + 1)) := (fT_sm _ _ _ _).symm
            have e9F : fT (fT (fT (fT (fT (fT (fT (fT vF 29 (upd a29 (nI nd3).toNatClampNeg 10)) 30 (upd a30 (nI nd3).toNatClampNeg (nI cP))) 31 (upd a31 (nI nd3).toNatClampNeg (nI c3))) 32 (upd a32 (nI nd3).toNatClampNeg 0)) 33 (upd a33 (nI nd3).toNatClampNeg 0)) 34 (upd a34 (nI nd3).toNatClampNeg 0)) 35 (upd a35 (nI nd3).toNatClampNeg 0)) 42 (upd (vF 42) ((nI dN)).toNatClampNeg (nI c3)) = fT (fT (fT (fT (fT (fT (fT (fT (fT (fT (fT (fT (fT (fT (fT vF 29 a29) 30 a30) 31 a31) 32 a32) 33 a33) 34 a34) 35 a35) 42 (upd (vF 42) ((nI dN)).toNatClampNeg (nI c3))) 29 (upd a29 (nI nd3).toNatClampNeg 10)) 30 (upd a30 (nI nd3).toNatClampNeg (nI cP))) 31 (upd a31 (nI nd3).toNatClampNeg (nI c3))) 32 (upd a32 (nI nd3).toNatClampNeg 0)) 33 (upd a33 (nI nd3).toNatClampNeg 0)) 34 (upd a34 (nI nd3).toNatClampNeg 0)) 35 (upd a35 (nI nd3).toNatClampNeg 0) := ch_E vF [upd a29 (nI nd3).toNatClampNeg 10, upd a30 (nI nd3).toNatClampNeg (nI cP), upd a31 (nI nd3).toNatClampNeg (nI c3), upd a32 (nI nd3).toNatClampNeg 0, upd a33 (nI nd3).toNatClampNeg 0, upd a34 (nI nd3).toNatClampNeg 0, upd a35 (nI nd3).toNatClampNeg 0, upd (vF 42) ((nI dN)).toNatClampNeg (nI c3), a29, a30, a31, a32, a33, a34, a35] [(42, 8), (35, 7), (34, 6), (33, 5), (32, 4), (31, 3), (30, 2), (29, 1)] [(35, 7), (34, 6), (33, 5), (32, 4), (31, 3), (30, 2), (29, 1), (42, 8), (35, 15), (34, 14), (33, 13), (32, 12), (31, 11), (30, 10), (29, 9)] [] trivial (by decide +kernel)
            have hP := wr_PF e9F (wr_Pi e9i (fz_P ht hB9.1))
            have hD := wr_DF e9F (wr_Di e9i (hB9.2.weaken (fun _ q _ h => hFc q.1 h)))
            clear e9i e9F
            obtain rfl := hw9
            have hl : lv_has _ _ ([(0, .ref h0), (1, .int (nI dN))]) := lv_sub hl [0, 1] rfl
            exact join2 _ _ _ _ ⟨nd3, (G3.add nd3 (G3.wt cP + G3.wt c3 + 3) (51 - 2 * (cw + xe)) 0), (nd3 + 1), (upd a29 (nI nd3).toNatClampNeg 10), (upd a30 (nI nd3).toNatClampNeg (nI cP)), (upd a31 (nI nd3).toNatClampNeg (nI c3)), (upd a32 (nI nd3).toNatClampNeg 0), (upd a33 (nI nd3).toNatClampNeg 0), (upd a34 (nI nd3).toNatClampNeg 0), (upd a35 (nI nd3).toNatClampNeg 0), (hK3.mkJoin (cv := 0) (kv := 10) (by omega) (show (10 : Int32) = nI 10 by decide) (Or.inl rfl) rfl rfl (hK3.2.1.tru hcPL) hL3 (Nat.le_refl _) (Nat.le_refl _)).1, (hK3.mkJoin (cv := 0) (kv := 10) (by omega) (show (10 : Int32) = nI 10 by decide) (Or.inl rfl) rfl rfl (hK3.2.1.tru hcPL) hL3 (Nat.le_refl _) (Nat.le_refl _)).2, by show nd3 + 1 + pe ≤ fn ∧ G3.vN + 1 + un ≤ nd3 + 1; omega, rfl, hP, hD, hS, hl⟩
          · have t_94 : (((vF 41) dN)).toInt = -1 := toI_nne c_94 rfl (by decide)
            refine lv_aload_n hx hb dX12_readTruth_97 rfl (lv_at hl 0 rfl) ?_
            refine va_get (D := (dC, dI)) (ci := 12) (v := .ref (a 42)) (C := RX12) (T := TX12) (N := 163) (fs := fM (vS a (fT vi 52 (nI nd3)) vj)) hx hb hts iwsRX12_readTruth_in12 hown hK hP 0 rfl rfl 67 (by decide) (hts _ hm_r_X12_readTruth_1) (fun _ h9 => h9) rfl dX12_readTruth_98 ?_
            refine lv_iload_n hx hb dX12_readTruth_101 rfl (lv_at hl 1 rfl) ?_
            refine va_iald (cA := k 42) (n := 120) (f := (upd (vF 42) ((nI dN)).toNatClampNeg (nI c3))) hx hb hK hP 43 42 (WR_get 42 (by decide)) (TR_get 42 (by decide)) (vp_in_nI (show dN < 120 by omega) (by omega)) dX12_readTruth_102 ?_
            refine lv_topi (fun y12 hy12 => ?_)
            obtain rfl : ((upd (vF 42) ((nI dN)).toNatClampNeg (nI c3)) dN) = y12 := (hy12.trans (by rw [nI_clamp (by omega)])).symm
            refine lv_topi (fun y13 hy13 => ?_)
            obtain rfl : (nI c3) = y13 := (hy13.trans (by rw [upd_at (by omega), if_pos rfl])).symm
            refine lv_goto (tgt := 126) hx hb dX12_readTruth_103 (by decide) ?_
            have hl : lv_has _ _ ([(0, .ref h0), (1, .int (nI dN))]) := lv_sub hl [0, 1] rfl
            exact join2 _ _ _ _ ⟨c3, G3, nd3, a29, a30, a31, a32, a33, a34, a35, hK3, hL3, by omega, rfl, hP, hD, hS, hl⟩
        · rintro H locs ls stk ⟨c1, G4, nd4, b29, b30, b31, b32, b33, b34, b35, hK4, hL4, hn4, rfl, hP, hD, hS, hl⟩
          refine va_iast (cA := k 41) (n := 120) (f := (vF 41)) hx hb hK hP hD hS 42 41 (WR_get 41 (by decide)) (TR_get 41 (by decide)) (vp_in_nI (show dN < 120 by omega) (by omega)) dX12_readTruth_126 (fun H locs hP hD hS => ?_)
          have hP : va_P (dC, dI) vwCl (WR a k h0 (fT vi 52 (nI nd4)) vj (fT (fT (fT (fT (fT (fT (fT (fT (fT vF 29 b29) 30 b30) 31 b31) 32 b32) 33 b33) 34 b34) 35 b35) 42 (upd (vF 42) ((nI dN)).toNatClampNeg (nI c3))) 41 (upd (vF 41) ((nI dN)).toNatClampNeg (nI c1))) vG) H := fz_w (WR_F 41 (by decide) _ rfl) hP
          have hD : va_D A (WR a k h0 (fT vi 52 (nI nd4)) vj (fT (fT (fT (fT (fT (fT (fT (fT (fT vF 29 b29) 30 b30) 31 b31) 32 b32) 33 b33) 34 b34) 35 b35) 42 (upd (vF 42) ((nI dN)).toNatClampNeg (nI c3))) 41 (upd (vF 41) ((nI dN)).toNatClampNeg (nI c1))) vG) := fz_wD (WR_F 41 (by decide) _ rfl) hD
          refine lv_aload_n hx hb dX12_readTruth_127 rfl (lv_at hl 0 rfl) ?_
          refine va_get (D := (dC, dI)) (ci := 12) (v := .ref (a 42)) (C := RX12) (T := TX12) (N := 163) (fs := fM (vS a (fT vi 52 (nI nd4)) vj)) hx hb hts iwsRX12_readTruth_in12 hown hK hP 0 rfl rfl 67 (by decide) (hts _ hm_r_X12_readTruth_1) (fun _ h9 => h9) rfl dX12_readTruth_128 ?_
          refine lv_iload_n hx hb dX12_readTruth_131 rfl (lv_at hl 1 rfl) ?_
          refine lv_iconst (v := (-1)) hx hb dX12_readTruth_132 (by decide) ?_
          refine va_iast (cA := k 42) (n := 120) (f := (upd (vF 42) ((nI dN)).toNatClampNeg (nI c3))) hx hb hK hP hD hS 43 42 (WR_get 42 (by decide)) (TR_get 42 (by decide)) (vp_in_nI (show dN < 120 by omega) (by omega)) dX12_readTruth_133 (fun H locs hP hD hS => ?_)
          have e9 : fT (fT (fT (fT (fT (fT (fT (fT (fT vF 29 b29) 30 b30) 31 b31) 32 b32) 33 b33) 34 b34) 35 b35) 42 (upd (upd (vF 42) ((nI dN)).toNatClampNeg (nI c3)) ((nI dN)).toNatClampNeg (-1))) 41 (upd (vF 41) ((nI dN)).toNatClampNeg (nI c1)) = fT (fT (fT (fT (fT (fT (fT (fT (fT (fT vF 29 b29) 30 b30) 31 b31) 32 b32) 33 b33) 34 b34) 35 b35) 42 (upd (vF 42) ((nI dN)).toNatClampNeg (nI c3))) 41 (upd (vF 41) ((nI dN)).toNatClampNeg (nI c1))) 42 (upd (upd (vF 42) ((nI dN)).toNatClampNeg (nI c3)) ((nI dN)).toNatClampNeg (-1)) := ((fT_sw _ _ _ (Nat.ne_of_beq_eq_false rfl)).trans (congrArg (fun g9 => fT g9 41 (upd (vF 41) ((nI dN)).toNatClampNeg (nI c1))) (fT_sm _ _ _ _))).symm
          have hP := wr_PF e9 (fz_w (WR_F 42 (by decide) _ rfl) hP)
          have hD := wr_DF e9 (fz_wD (WR_F 42 (by decide) _ rfl) hD)
          clear e9
          refine lv_aload_n hx hb dX12_readTruth_134 rfl (lv_at hl 0 rfl) ?_
          refine lv_bipush (v := 7) hx hb dX12_readTruth_135 (by decide) ?_
          have hFc := allFree hD hS hA
          refine va_calli (va_runV (As := [.int 7]) (rest := []) ⟨hx, hb, hml, hown, hts⟩ (r_X12_isKey l dC dI a k h0 (fT vi 52 (nI nd4)) vj (fT (fT (fT (fT (fT (fT (fT (fT (fT vF 29 b29) 30 b30) 31 b31) 32 b32) 33 b33) 34 b34) 35 b35) 42 (upd (upd (vF 42) ((nI dN)).toNatClampNeg (nI c3)) ((nI dN)).toNatClampNeg (-1))) 41 (upd (vF 41) ((nI dN)).toNatClampNeg (nI c1))) vG 7 H.size) (cwV 1 hts gwsRX12_readTruth_1 rfl rfl rfl hd_yX12_isKey_RX12 (by decide +kernel)) (fz_pre (va_recv hK hP (ci := 12) (q0 := 0) rfl rfl) hP hK hD) rfl rfl hl.1 rfl (lv_room (Nat.le_of_ble_eq_true rfl)) dX12_readTruth_137 (by decide +kernel)) hS (fun q _ h => hFc q h) hFc (fun r137 u t9_ H locs ht hvm hw9 hB9 hz1 hk1 hS => ?_)
          have hP : va_P (dC, dI) vwCl (WR a k h0 (fT vi 52 (nI nd4)) vj (fT (fT (fT (fT (fT (fT (fT (fT (fT vF 29 b29) 30 b30) 31 b31) 32 b32) 33 b33) 34 b34) 35 b35) 42 (upd (upd (vF 42) ((nI dN)).toNatClampNeg (nI c3)) ((nI dN)).toNatClampNeg (-1))) 41 (upd (vF 41) ((nI dN)).toNatClampNeg (nI c1))) vG) H := fz_P ht hB9.1
          have hD := fz_sd hP (hB9.2.weaken (fun _ q _ h => hFc q.1 h)) rfl
          rcases hw9 with ⟨rfl, f137_0, f137_1⟩ | ⟨rfl, f137_0⟩
          · have f137_0 : (vi 18).toInt = 2 := f137_0
            have f137_1 : (vi 20) = 7 := f137_1
            refine lv_if_eq (tgt := 153) hx hb dX12_readTruth_140 (by decide) (fun c9 => absurd c9 (by decide)) (fun _ => ?_)
            have hfl : fn < an := hLx.2.2.1.resolve_left (fun h => by first | (rw [h] at f137_0; exact absurd f137_0 (by decide)))
            refine lv_aload_n hx hb dX12_readTruth_143 rfl (lv_at hl 0 rfl) ?_
            have hFc := allFree hD hS hA
            refine va_callv (va_runV (As := []) (rest := []) ⟨hx, hb, hml, hown, hts⟩ (r_X12_next l dC dI a k h0 (fT vi 52 (nI nd4)) vj (fT (fT (fT (fT (fT (fT (fT (fT (fT vF 29 b29) 30 b30) 31 b31) 32 b32) 33 b33) 34 b34) 35 b35) 42 (upd (upd (vF 42) ((nI dN)).toNatClampNeg (nI c3)) ((nI dN)).toNatClampNeg (-1))) 41 (upd (vF 41) ((nI dN)).toNatClampNeg (nI c1))) vG tp an hTp (by first | with_reducible assumption | decide | omega | rfl | assumption) ha0 (by first | with_reducible assumption | decide | omega | rfl | assumption) H.size) (cwV 0 hts gwsRX12_readTruth_2 rfl rfl rfl hd_yX12_next_RX12 (by decide +kernel)) (fz_preE (va_recv hK hP (ci := 12) (q0 := 0) rfl rfl) hP hK hD (fun a U g mk qE => qE.same rfl) (fun U hU9 hW => by rw [hU9]; exact (((hE : StrA A s s.heap).kept hS.2.1).narrow (fun q h => hFc q h)).warm hW)) rfl rfl hl.1 rfl (lv_room (Nat.le_of_ble_eq_true rfl)) dX12_readTruth_144 (by decide +kernel)) hS (fun q _ h => hFc q h) hFc (fun u t9_ H locs ht hvm hw9 hB9 hz1 hk1 hS => ?_)
            revert u hw9 hB9
            refine fz_p4 ?_
            intro a2144 f2144 sg144 wd144 hw9 hB9
            try dsimp only at hw9 hB9
            have hP : va_P (dC, dI) vwCl (WR a k h0 (fT (fT (fT (fT (fT vi 52 (nI nd4)) 17 (nI a2144)) 19 (nI f2144)) 20 sg144) 18 wd144) vj (fT (fT (fT (fT (fT (fT (fT (fT (fT vF 29 b29) 30 b30) 31 b31) 32 b32) 33 b33) 34 b34) 35 b35) 42 (upd (upd (vF 42) ((nI dN)).toNatClampNeg (nI c3)) ((nI dN)).toNatClampNeg (-1))) 41 (upd (vF 41) ((nI dN)).toNatClampNeg (nI c1))) vG) H := fz_P ht hB9.1
            have hD := fz_sd hP (hB9.2.weaken (fun _ q _ h => hFc q.1 h)) rfl
            revert hw9
            refine fz_a2 ?_
            intro f144_0 f144_1
            have hl1 := f144_0.1
            have hl2 := f144_0.2.1
            refine lv_aload_n hx hb dX12_readTruth_147 rfl (lv_at hl 0 rfl) ?_
            refine lv_iconst (v := 3) hx hb dX12_readTruth_148 (by decide) ?_
            have hFc := allFree hD hS hA
            refine va_callv (va_runV (As := [.int 3]) (rest := []) ⟨hx, hb, hml, hown, hts⟩ (r_X12_begin1 l dC dI a k h0 (fT (fT (fT (fT (fT vi 52 (nI nd4)) 17 (nI a2144)) 19 (nI f2144)) 20 sg144) 18 wd144) vj (fT (fT (fT (fT (fT (fT (fT (fT (fT vF 29 b29) 30 b30) 31 b31) 32 b32) 33 b33) 34 b34) 35 b35) 42 (upd (upd (vF 42) ((nI dN)).toNatClampNeg (nI c3)) ((nI dN)).toNatClampNeg (-1))) 41 (upd (vF 41) ((nI dN)).toNatClampNeg (nI c1))) vG 3 tp a2144 f2144 nm se pa va bd (dN + 1) wi hTp (by first | with_reducible assumption | decide | omega | rfl | assumption) rfl rfl (f144_0) (by first | with_reducible assumption | decide | omega | rfl | assumption) hnm (by first | with_reducible assumption | decide | omega | rfl | assumption) (by first | with_reducible assumption | decide | omega | rfl | assumption) (by first | with_reducible assumption | decide | omega | rfl | assumption) hbd (by first | with_reducible assumption | decide | omega | rfl | assumption) (by first | with_reducible assumption | decide | omega | rfl | assumption) (hdp) (by first | with_reducible assumption | decide | omega | rfl | assumption) hwi (by first | with_reducible assumption | decide | omega | rfl | assumption) H.size) (cwV 1 hts gwsRX12_readTruth_3 rfl rfl rfl hd_yX12_begin1_RX12 (by decide +kernel)) (fz_pre (va_recv hK hP (ci := 12) (q0 := 0) rfl rfl) hP hK hD) rfl rfl hl.1 rfl (lv_room (Nat.le_of_ble_eq_true rfl)) dX12_readTruth_149 (by decide +kernel)) hS (fun q _ h => hFc q h) hFc (fun u t9_ H locs ht hvm hw9 hB9 hz1 hk1 hS => ?_)
            revert u hw9 hB9
            refine fz_p10 ?_
            intro s2149 p2149 g39149 g40149 g41149 g42149 g47149 g48149 d2149 w2149 hw9 hB9
            try dsimp only at hw9 hB9
            have e9F : fT (fT (fT (fT (fT (fT (fT (fT (fT (fT (fT (fT (fT vF 29 b29) 30 b30) 31 b31) 32 b32) 33 b33) 34 b34) 35 b35) 42 g42149) 41 g41149) 39 g39149) 40 g40149) 47 g47149) 48 g48149 = fT (fT (fT (fT (fT (fT (fT (fT (fT (fT (fT (fT (fT (fT (fT vF 29 b29) 30 b30) 31 b31) 32 b32) 33 b33) 34 b34) 35 b35) 42 (upd (upd (vF 42) ((nI dN)).toNatClampNeg (nI c3)) ((nI dN)).toNatClampNeg (-1))) 41 (upd (vF 41) ((nI dN)).toNatClampNeg (nI c1))) 39 g39149) 40 g40149) 41 g41149) 42 g42149) 47 g47149) 48 g48149 := ch_E vF [b29, b30, b31, b32, b33, b34, b35, g42149, g41149, g39149, g40149, g47149, g48149, upd (upd (vF 42) ((nI dN)).toNatClampNeg (nI c3)) ((nI dN)).toNatClampNeg (-1), upd (vF 41) ((nI dN)).toNatClampNeg (nI c1)] [(48, 13), (47, 12), (40, 11), (39, 10), (41, 9), (42, 8), (35, 7), (34, 6), (33, 5), (32, 4), (31, 3), (30, 2), (29, 1)] [(48, 13), (47, 12), (42, 8), (41, 9), (40, 11), (39, 10), (41, 15), (42, 14), (35, 7), (34, 6), (33, 5), (32, 4), (31, 3), (30, 2), (29, 1)] [] trivial (by decide +kernel)
            have hP := wr_PF e9F (fz_P ht hB9.1)
            have hD := wr_DF e9F (hB9.2.weaken (fun _ q _ h => hFc q.1 h))
            clear e9F
            revert hw9
            refine fz_a4 ?_
            intro f149_0 f149_1 f149_2 f149_3
            have f149_1 : 0 < (s2149).toInt ∨ (s2149 = (vi 21) ∧ BgO 3 wd144 sg144 g39149 g40149 g41149 g42149 g48149 (dN + 1) wi d2149 w2149) := f149_1
            have f149_2 : FrmO (dN + 1) (vF 39) (vF 40) (upd (vF 41) ((nI dN)).toNatClampNeg (nI c1)) (upd (upd (vF 42) ((nI dN)).toNatClampNeg (nI c3)) ((nI dN)).toNatClampNeg (-1)) (vF 48) g39149 g40149 g41149 g42149 g48149 := f149_2
            refine W.widen (k := 0) (n := 0) (by decide +kernel) (by decide +kernel) ?_
            have e9 : fT (fT (fT (fT (fT (fT (fT (fT (fT (fT (fT vi 52 (nI nd4)) 17 (nI a2144)) 19 (nI f2144)) 20 sg144) 18 wd144) 75 (nI w2149)) 74 (nI d2149)) 21 s2149) 22 p2149) 76 (vi 76)) 77 (vi 77) = fT (fT (fT (fT (fT (fT (fT (fT (fT vi 52 (nI nd4)) 17 (nI a2144)) 19 (nI f2144)) 20 sg144) 18 wd144) 75 (nI w2149)) 74 (nI d2149)) 21 s2149) 22 p2149 := ch_E vi [nI nd4, nI a2144, nI f2144, sg144, wd144, nI w2149, nI d2149, s2149, p2149] [(77, 0), (76, 0), (22, 9), (21, 8), (74, 7), (75, 6), (18, 5), (20, 4), (19, 3), (17, 2), (52, 1)] [(22, 9), (21, 8), (74, 7), (75, 6), (18, 5), (20, 4), (19, 3), (17, 2), (52, 1)] [] trivial (by decide +kernel)
            have hP := wr_Pi e9 hP
            have hD := wr_Di e9 hD
            clear e9
            have e9 : fT (fT (fT (fT (fT (fT (fT (fT (fT (fT (fT (fT (fT vF 29 b29) 30 b30) 31 b31) 32 b32) 33 b33) 34 b34) 35 b35) 42 g42149) 39 g39149) 40 g40149) 41 g41149) 47 g47149) 48 g48149 = fT (fT (fT (fT (fT (fT (fT (fT (fT (fT (fT (fT (fT vF 29 b29) 30 b30) 31 b31) 32 b32) 33 b33) 34 b34) 35 b35) 42 g42149) 41 g41149) 39 g39149) 40 g40149) 47 g47149) 48 g48149 := ch_E vF [b29, b30, b31, b32, b33, b34, b35, g42149, g39149, g40149, g41149, g47149, g48149] [(48, 13), (47, 12), (41, 11), (40, 10), (39, 9), (42, 8), (35, 7), (34, 6), (33, 5), (32, 4), (31, 3), (30, 2), (29, 1)] [(48, 13), (47, 12), (40, 10), (39, 9), (41, 11), (42, 8), (35, 7), (34, 6), (33, 5), (32, 4), (31, 3), (30, 2), (29, 1)] [] trivial (by decide +kernel)
            have hP := wr_PF e9 hP
            have hD := wr_DF e9 hD
            clear e9
            exact W.vret hx hb hr (fun t9_ ht hW => ⟨⟨(a2144, f2144, sg144, wd144, s2149, p2149, b29, b30, b31, b32, b33, b34, b35, g39149, g40149, g41149, g42149, g47149, g48149, d2149, w2149, nd4, (vi 76), (vi 77), G4), rfl, by (try dsimp only); exact ⟨f144_0, by omega, f149_0, by rcases f149_1 with h9 | h9; (exact Or.inl h9); (exact Or.inr ⟨RdS.push (gm := gl) hK4.1 hBel hK4.2.1 (Nat.le_refl _) (fun q hq => ⟨rfl, rfl, by rw [upd_at (by omega), if_neg (by omega)], by rw [upd_at (by omega), if_neg (by omega), upd_at (by omega), if_neg (by omega)], rfl⟩) h39 (by decide) h48 (by omega) ⟨⟨by omega, fun _ => by omega, fun _ => by omega, Nat.le_refl _⟩, Or.inr (Or.inr (Or.inr (Or.inr (Or.inr (Or.inr (Or.inr (Or.inl ⟨rfl, rfl, hq0, rfl, rfl, 1, 0, Or.inr ⟨rfl, c1, by rw [upd_at (by omega), if_pos rfl], hL4⟩, Or.inl ⟨by rw [upd_at (by omega), if_pos rfl], rfl⟩, rfl⟩)))))))⟩ f149_2 (by rw [← hwc]; exact h9.2) (show (3 : Int32) = nI 3 by decide) (by decide) (by omega) (by omega) (by omega) (by omega) hK4.2.2.2 (by show 10 * (4000 - _) + dN + 1 + 5 ≤ mM - 1; omega), hK4.2.1.less (Nat.zero_le _)⟩), by omega⟩, by rw [ht]; exact hP, hD⟩, hS.F ht⟩) hS.2.2 dX12_readTruth_152
          · have f137_0 : ¬ ((vi 18).toInt = 2 ∧ (vi 20) = 7) := f137_0
            refine lv_if_eq (tgt := 153) hx hb dX12_readTruth_140 (by decide) (fun _ => ?_) (fun c9 => absurd (by decide) c9)
            refine lv_aload_n hx hb dX12_readTruth_153 rfl (lv_at hl 0 rfl) ?_
            refine lv_aload_n hx hb dX12_readTruth_154 rfl (lv_at hl 0 rfl) ?_
            refine va_get (D := (dC, dI)) (ci := 12) (v := .ref (a 41)) (C := RX12) (T := TX12) (N := 163) (fs := fM (vS a (fT vi 52 (nI nd4)) vj)) hx hb hts iwsRX12_readTruth_in12 hown hK hP 0 rfl rfl 66 (by decide) (hts _ hm_r_X12_readTruth_3) (fun _ h9 => h9) rfl dX12_readTruth_155 ?_
            refine lv_iload_n hx hb dX12_readTruth_158 rfl (lv_at hl 1 rfl) ?_
            refine va_iald (cA := k 41) (n := 120) (f := (upd (vF 41) ((nI dN)).toNatClampNeg (nI c1))) hx hb hK hP 42 41 (WR_get 41 (by decide)) (TR_get 41 (by decide)) (vp_in_nI (show dN < 120 by omega) (by omega)) dX12_readTruth_159 ?_
            refine lv_topi (fun y14 hy14 => ?_)
            obtain rfl : ((upd (vF 41) ((nI dN)).toNatClampNeg (nI c1)) dN) = y14 := (hy14.trans (by rw [nI_clamp (by omega)])).symm
            refine lv_topi (fun y15 hy15 => ?_)
            obtain rfl : (nI c1) = y15 := (hy15.trans (by rw [upd_at (by omega), if_pos rfl])).symm
            have hFc := allFree hD hS hA
            refine va_callv (va_runV (As := [.int (nI c1)]) (rest := []) ⟨hx, hb, hml, hown, hts⟩ (r_X12_end1w l dC dI a k h0 (fT vi 52 (nI nd4)) vj (fT (fT (fT (fT (fT (fT (fT (fT (fT vF 29 b29) 30 b30) 31 b31) 32 b32) 33 b33) 34 b34) 35 b35) 42 (upd (upd (vF 42) ((nI dN)).toNatClampNeg (nI c3)) ((nI dN)).toNatClampNeg (-1))) 41 (upd (vF 41) ((nI dN)).toNatClampNeg (nI c1))) vG (nI c1) dN wi xe (hdp) (by first | with_reducible assumption | decide | omega | rfl | assumption) hwi (by first | with_reducible assumption | decide | omega | rfl | assumption) (h48) (by first | with_reducible assumption | decide | omega | rfl | assumption) H.size) (cwV 1 hts gwsRX12_readTruth_4 rfl rfl rfl hd_yX12_end1_RX12 (by decide +kernel)) (fz_pre (va_recv hK hP (ci := 12) (q0 := 0) rfl rfl) hP hK hD) rfl rfl hl.1 rfl (lv_room (Nat.le_of_ble_eq_true rfl)) dX12_readTruth_160 (by decide +kernel)) hS (fun q _ h => hFc q h) hFc (fun u t9_ H locs ht hvm hw9 hB9 hz1 hk1 hS => ?_)
            have hP : va_P (dC, dI) vwCl (WR a k h0 (fT (fT (fT (fT (fT vi 52 (nI nd4)) 74 (nI dN)) 75 (nI (wi - xe))) 76 (nI c1)) 77 ((vF 47) dN)) vj (fT (fT (fT (fT (fT (fT (fT (fT (fT vF 29 b29) 30 b30) 31 b31) 32 b32) 33 b33) 34 b34) 35 b35) 42 (upd (upd (vF 42) ((nI dN)).toNatClampNeg (nI c3)) ((nI dN)).toNatClampNeg (-1))) 41 (upd (vF 41) ((nI dN)).toNatClampNeg (nI c1))) vG) H := fz_P ht hB9.1
            have hD := fz_sd hP (hB9.2.weaken (fun _ q _ h => hFc q.1 h)) rfl
            refine W.widen (k := 0) (n := 0) (by decide +kernel) (by decide +kernel) ?_
            have e9 : fT (fT (fT (fT (fT (fT (fT (fT (fT (fT (fT vi 52 (nI nd4)) 17 (nI an)) 19 (nI fn)) 20 (vi 20)) 18 (vi 18)) 75 (nI (wi - xe))) 74 (nI dN)) 21 (vi 21)) 22 (vi 22)) 76 (nI c1)) 77 ((vF 47) dN) = fT (fT (fT (fT (fT vi 52 (nI nd4)) 74 (nI dN)) 75 (nI (wi - xe))) 76 (nI c1)) 77 ((vF 47) dN) := ch_E vi [nI nd4, nI an, nI fn, nI (wi - xe), nI dN, nI c1, (vF 47) dN] [(77, 7), (76, 6), (22, 0), (21, 0), (74, 5), (75, 4), (18, 0), (20, 0), (19, 3), (17, 2), (52, 1)] [(77, 7), (76, 6), (75, 4), (74, 5), (52, 1)] [17, 19] ⟨show nI an = vi 17 from (by first | with_reducible rfl | with_reducible assumption | (symm; with_reducible assumption) | rfl | assumption | (symm; assumption) | (subst_vars; rfl)), show nI fn = vi 19 from (by first | with_reducible rfl | with_reducible assumption | (symm; with_reducible assumption) | rfl | assumption | (symm; assumption) | (subst_vars; rfl)), trivial⟩ (by decide +kernel)
            have hP := wr_Pi e9 hP
            have hD := wr_Di e9 hD
            clear e9
            have e9 : fT (fT (fT (fT (fT (fT (fT (fT (fT (fT (fT (fT (fT vF 29 b29) 30 b30) 31 b31) 32 b32) 33 b33) 34 b34) 35 b35) 42 (upd (upd (vF 42) ((nI dN)).toNatClampNeg (nI c3)) ((nI dN)).toNatClampNeg (-1))) 39 (vF 39)) 40 (vF 40)) 41 (upd (vF 41) ((nI dN)).toNatClampNeg (nI c1))) 47 (vF 47)) 48 (vF 48) = fT (fT (fT (fT (fT (fT (fT (fT (fT vF 29 b29) 30 b30) 31 b31) 32 b32) 33 b33) 34 b34) 35 b35) 42 (upd (upd (vF 42) ((nI dN)).toNatClampNeg (nI c3)) ((nI dN)).toNatClampNeg (-1))) 41 (upd (vF 41) ((nI dN)).toNatClampNeg (nI c1)) := ch_E vF [b29, b30, b31, b32, b33, b34, b35, upd (upd (vF 42) ((nI dN)).toNatClampNeg (nI c3)) ((nI dN)).toNatClampNeg (-1), upd (vF 41) ((nI dN)).toNatClampNeg (nI c1)] [(48, 0), (47, 0), (41, 9), (40, 0), (39, 0), (42, 8), (35, 7), (34, 6), (33, 5), (32, 4), (31, 3), (30, 2), (29, 1)] [(41, 9), (42, 8), (35, 7), (34, 6), (33, 5), (32, 4), (31, 3), (30, 2), (29, 1)] [] trivial (by decide +kernel)
            have hP := wr_PF e9 hP
            have hD := wr_DF e9 hD
            clear e9
            exact W.vret hx hb hr (fun t9_ ht hW => ⟨⟨(an, fn, (vi 20), (vi 18), (vi 21), (vi 22), b29, b30, b31, b32, b33, b34, b35, (vF 39), (vF 40), (upd (vF 41) ((nI dN)).toNatClampNeg (nI c1)), (upd (upd (vF 42) ((nI dN)).toNatClampNeg (nI c3)) ((nI dN)).toNatClampNeg (-1)), (vF 47), (vF 48), dN, (wi - xe), nd4, (nI c1), ((vF 47) dN), G4), rfl, by (try dsimp only); exact ⟨hLx, Nat.le_refl _, hst0, Or.inr ⟨by (have e9 : wi - xe = cw := by omega); rw [e9]; exact RdS.pop (ex := xe) hK4.1 hBel hK4.2.1 (Nat.le_refl _) (fun q hq => ⟨rfl, rfl, by rw [upd_at (by omega), if_neg (by omega)], by rw [upd_at (by omega), if_neg (by omega), upd_at (by omega), if_neg (by omega)], rfl⟩) (by omega) (fun _ => by omega) (by decide) (Or.inr ⟨by decide, hL4⟩) (by omega) (by omega) (by omega) (by omega) hK4.2.2.2 (by omega), hK4.2.1.less (Nat.zero_le _)⟩, by omega⟩, by rw [ht]; exact hP, hD⟩, hS.F ht⟩) hS.2.2 dX12_readTruth_163
  · have t_6 : (((vF 40) dN)).toInt = 0 := toI_nne c_6 rfl (by decide)
    have hz := hTq.truth.resolve_right (fun h => absurd (c_6.symm.trans h.1) (by decide))
    have hK0 := RdK.first (gl := gl) hRV (by omega)
    refine lv_aload_n hx hb dX12_readTruth_9 rfl (lv_at hl 0 rfl) ?_
    refine va_get (D := (dC, dI)) (ci := 12) (v := .ref (a 40)) (C := RX12) (T := TX12) (N := 163) (fs := fM (vS a vi vj)) hx hb hts iwsRX12_readTruth_in12 hown hK hP 0 rfl rfl 65 (by decide) (hts _ hm_r_X12_readTruth_0) (fun _ h9 => h9) rfl dX12_readTruth_10 ?_
    refine lv_iload_n hx hb dX12_readTruth_13 rfl (lv_at hl 1 rfl) ?_
    refine lv_iconst (v := 1) hx hb dX12_readTruth_14 (by decide) ?_
    refine va_iast (cA := k 40) (n := 120) (f := (vF 40)) hx hb hK hP hD hS 41 40 (WR_get 40 (by decide)) (TR_get 40 (by decide)) (vp_in_nI (show dN < 120 by omega) (by omega)) dX12_readTruth_15 (fun H locs hP hD hS => ?_)
    have hP : va_P (dC, dI) vwCl (WR a k h0 vi vj (fT vF 40 (upd (vF 40) ((nI dN)).toNatClampNeg 1)) vG) H := fz_w (WR_F 40 (by decide) _ rfl) hP
    have hD : va_D A (WR a k h0 vi vj (fT vF 40 (upd (vF 40) ((nI dN)).toNatClampNeg 1)) vG) := fz_wD (WR_F 40 (by decide) _ rfl) hD
    refine lv_aload_n hx hb dX12_readTruth_16 rfl (lv_at hl 0 rfl) ?_
    refine lv_iconst (v := 3) hx hb dX12_readTruth_17 (by decide) ?_
    have hFc := allFree hD hS hA
    refine va_callv (va_runV (As := [.int 3]) (rest := []) ⟨hx, hb, hml, hown, hts⟩ (r_X12_begin1 l dC dI a k h0 vi vj (fT vF 40 (upd (vF 40) ((nI dN)).toNatClampNeg 1)) vG 3 tp an fn nm se pa va bd (dN + 1) wi hTp (by first | with_reducible assumption | decide | omega | rfl | assumption) ha0 hfr (by first | with_reducible assumption | decide | omega | rfl | assumption) (by first | with_reducible assumption | decide | omega | rfl | assumption) hnm (by first | with_reducible assumption | decide | omega | rfl | assumption) (by first | with_reducible assumption | decide | omega | rfl | assumption) (by first | with_reducible assumption | decide | omega | rfl | assumption) hbd (by first | with_reducible assumption | decide | omega | rfl | assumption) (by first | with_reducible assumption | decide | omega | rfl | assumption) (hdp) (by first | with_reducible assumption | decide | omega | rfl | assumption) hwi (by first | with_reducible assumption | decide | omega | rfl | assumption) H.size) (cwV 1 hts gwsRX12_readTruth_3 rfl rfl rfl hd_yX12_begin1_RX12 (by decide +kernel)) (fz_pre (va_recv hK hP (ci := 12) (q0 := 0) rfl rfl) hP hK hD) rfl rfl hl.1 rfl (lv_room (Nat.le_of_ble_eq_true rfl)) dX12_readTruth_18 (by decide +kernel)) hS (fun q _ h => hFc q h) hFc (fun u t9_ H locs ht hvm hw9 hB9 hz1 hk1 hS => ?_)
    revert u hw9 hB9
    refine fz_p10 ?_
    intro s218 p218 g3918 g4018 g4118 g4218 g4718 g4818 d218 w218 hw9 hB9
    try dsimp only at hw9 hB9
    have e9F : fT (fT (fT (fT (fT (fT vF 40 g4018) 39 g3918) 41 g4118) 42 g4218) 47 g4718) 48 g4818 = fT (fT (fT (fT (fT (fT (fT vF 40 (upd (vF 40) ((nI dN)).toNatClampNeg 1)) 39 g3918) 40 g4018) 41 g4118) 42 g4218) 47 g4718) 48 g4818 := (congrArg (fun g9 => fT (fT (fT (fT g9 41 g4118) 42 g4218) 47 g4718) 48 g4818) ((fT_sw _ _ _ (Nat.ne_of_beq_eq_false rfl)).trans (congrArg (fun g9 => fT g9 39 g3918) (fT_sm _ _ _ _)))).symm
    have hP := wr_PF e9F (fz_P ht hB9.1)
    have hD := wr_DF e9F (hB9.2.weaken (fun _ q _ h => hFc q.1 h))
    clear e9F
    revert hw9
    refine fz_a4 ?_
    intro f18_0 f18_1 f18_2 f18_3
    have f18_1 : 0 < (s218).toInt ∨ (s218 = (vi 21) ∧ BgO 3 (vi 18) (vi 20) g3918 g4018 g4118 g4218 g4818 (dN + 1) wi d218 w218) := f18_1
    have f18_2 : FrmO (dN + 1) (vF 39) (upd (vF 40) ((nI dN)).toNatClampNeg 1) (vF 41) (vF 42) (vF 48) g3918 g4018 g4118 g4218 g4818 := f18_2
    refine W.widen (k := 0) (n := 0) (by decide +kernel) (by decide +kernel) ?_
    have e9 : fT (fT (fT (fT (fT (fT (fT (fT (fT (fT (fT vi 52 (nI nd)) 17 (nI an)) 19 (nI fn)) 20 (vi 20)) 18 (vi 18)) 75 (nI w218)) 74 (nI d218)) 21 s218) 22 p218) 76 (vi 76)) 77 (vi 77) = fT (fT (fT (fT vi 75 (nI w218)) 74 (nI d218)) 21 s218) 22 p218 := ch_E vi [nI nd, nI an, nI fn, nI w218, nI d218, s218, p218] [(77, 0), (76, 0), (22, 7), (21, 6), (74, 5), (75, 4), (18, 0), (20, 0), (19, 3), (17, 2), (52, 1)] [(22, 7), (21, 6), (74, 5), (75, 4)] [52, 17, 19] ⟨show nI nd = vi 52 from (by first | with_reducible rfl | with_reducible assumption | (symm; with_reducible assumption) | rfl | assumption | (symm; assumption) | (subst_vars; rfl)), show nI an = vi 17 from (by first | with_reducible rfl | with_reducible assumption | (symm; with_reducible assumption) | rfl | assumption | (symm; assumption) | (subst_vars; rfl)), show nI fn = vi 19 from (by first | with_reducible rfl | with_reducible assumption | (symm; with_reducible assumption) | rfl | assumption | (symm; assumption) | (subst_vars; rfl)), trivial⟩ (by decide +kernel)
    have hP := wr_Pi e9 hP
    have hD := wr_Di e9 hD
    clear e9
    have e9 : fT (fT (fT (fT (fT (fT (fT (fT (fT (fT (fT (fT (fT vF 29 (vF 29)) 30 (vF 30)) 31 (vF 31)) 32 (vF 32)) 33 (vF 33)) 34 (vF 34)) 35 (vF 35)) 42 g4218) 39 g3918) 40 g4018) 41 g4118) 47 g4718) 48 g4818 = fT (fT (fT (fT (fT (fT vF 40 g4018) 39 g3918) 41 g4118) 42 g4218) 47 g4718) 48 g4818 := ch_E vF [g4218, g3918, g4018, g4118, g4718, g4818] [(48, 6), (47, 5), (41, 4), (40, 3), (39, 2), (42, 1), (35, 0), (34, 0), (33, 0), (32, 0), (31, 0), (30, 0), (29, 0)] [(48, 6), (47, 5), (42, 1), (41, 4), (39, 2), (40, 3)] [] trivial (by decide +kernel)
    have hP := wr_PF e9 hP
    have hD := wr_DF e9 hD
    clear e9
    exact W.vret hx hb hr (fun t9_ ht hW => ⟨⟨(an, fn, (vi 20), (vi 18), s218, p218, (vF 29), (vF 30), (vF 31), (vF 32), (vF 33), (vF 34), (vF 35), g3918, g4018, g4118, g4218, g4718, g4818, d218, w218, nd, (vi 76), (vi 77), gG), rfl, by (try dsimp only); exact ⟨hLx, by omega, f18_0, by rcases f18_1 with h9 | h9; (exact Or.inl h9); (exact Or.inr ⟨RdS.push (gm := gl) hK0.1 hBel hK0.2.1 (Nat.le_refl _) (fun q hq => ⟨rfl, by rw [upd_at (by omega), if_neg (by omega)], rfl, rfl, rfl⟩) h39 (by decide) h48 (by omega) ⟨⟨by omega, fun _ => by omega, fun _ => by omega, Nat.le_refl _⟩, Or.inr (Or.inr (Or.inr (Or.inr (Or.inr (Or.inr (Or.inr (Or.inl ⟨rfl, rfl, by rw [upd_at (by omega), if_pos rfl], rfl, rfl, 0, 0, Or.inl ⟨hz.2.1, rfl⟩, Or.inl ⟨hz.2.2.1, rfl⟩, rfl⟩)))))))⟩ f18_2 (by rw [← hwc]; exact h9.2) (show (3 : Int32) = nI 3 by decide) (by decide) (by omega) (by omega) (by omega) (by omega) (by omega) (by show 10 * (4000 - _) + dN + 1 + 5 ≤ mM - 1; omega), hK0.2.1.less (Nat.zero_le _)⟩), by omega⟩, by rw [ht]; exact hP, hD⟩, hS.F ht⟩) hS.2.2 dX12_readTruth_21
end
section
theorem RTp.one0 {T : Nat → Nat → Int32} {G : RG} {f29 f30 f31 f32 f36 f37 f38 f40 f41 f42 : Nat → Int32} {wd sg res : Int32} {se bs i w u ex gl gm p1 n1 m1 tw : Nat} (h : RTp T G f29 f30 f31 f32 f36 f37 f38 f40 f41 f42 wd sg res se bs i 3 w u ex gl gm p1 n1 m1 tw) (e : f40 i = 0) : f41 i = -1 ∧ f42 i = -1 ∧ p1 = 0 ∧ n1 = 0 ∧ m1 = 0 ∧ gm = gl ∧ ex ≤ 1 ∧ (wd = 2 → sg = 10 → ex = 1) ∧ tw = 5 := by
  rcases h with ⟨h1, h2, h3, ⟨a1, a2, a3, a4⟩, ⟨a6, a5⟩, a7, h4⟩ | ⟨h1, ck, ⟨⟨b0, b1, b3, b2⟩, h2⟩, c, h3, h4⟩
  · exact ⟨h2, h3, a1, a2, a3, a4, a6, a7 rfl, by omega⟩
  · rcases h2 with h | h | h | h | h | h | h | h | h | h | h | h
    · exact absurd h.1 (by decide)
    · exact absurd h.1 (by decide)
    · exact absurd h.1 (by decide)
    · exact absurd h.1 (by decide)
    · exact absurd h.1 (by decide)
    · exact absurd h.1 (by decide)
    · exact absurd h.1 (by decide)
    · exact absurd h.1 (by decide)
    · exact absurd (e.symm.trans h.2.2.1) (by decide)
    · exact absurd (e.symm.trans h.2.2.1) (by decide)
    · exact absurd (e.symm.trans h.2.2.1) (by decide)
    · exact absurd (e.symm.trans h.2.2.1) (by decide)
theorem RTp.one1 {T : Nat → Nat → Int32} {G : RG} {f29 f30 f31 f32 f36 f37 f38 f40 f41 f42 : Nat → Int32} {wd sg res : Int32} {se bs i w u ex gl gm p1 n1 m1 tw : Nat} (h : RTp T G f29 f30 f31 f32 f36 f37 f38 f40 f41 f42 wd sg res se bs i 3 w u ex gl gm p1 n1 m1 tw) (e : f40 i = 1) : p1 = 1 ∧ n1 = 0 ∧ m1 = 0 ∧ gl ≤ gm ∧ ex = 1 ∧ tw = 1 ∧ ∃ c, res = nI c ∧ TruO G f29 c (51 - 2 * w) := by
  rcases h with ⟨h1, h2, h3, ⟨a1, a2, a3, a4⟩, ⟨a6, a5⟩, a7, h4⟩ | ⟨h1, ck, ⟨⟨b0, b1, b3, b2⟩, h2⟩, c, h3, h4⟩
  · exact absurd (e.symm.trans h1) (by decide)
  · rcases h2 with h | h | h | h | h | h | h | h | h | h | h | h
    · exact absurd h.1 (by decide)
    · exact absurd h.1 (by decide)
    · exact absurd h.1 (by decide)
    · exact absurd h.1 (by decide)
    · exact absurd h.1 (by decide)
    · exact absurd h.1 (by decide)
    · exact absurd h.1 (by decide)
    · exact absurd h.1 (by decide)
    · (rcases h4 with h4 | h4 | h4); (exact absurd (h.2.1 ▸ h4.1) (by decide)); (exact absurd (h.2.1.symm.trans h4.1) (by decide)); (exact ⟨h.2.2.2.2.2, h.2.2.2.1, h.2.2.2.2.1, b2, b3 h.2.1, h1, c, h3, h4.2.2⟩)
    · exact absurd (e.symm.trans h.2.2.1) (by decide)
    · exact absurd (e.symm.trans h.2.2.1) (by decide)
    · exact absurd (e.symm.trans h.2.2.1) (by decide)
theorem RTp.one2 {T : Nat → Nat → Int32} {G : RG} {f29 f30 f31 f32 f36 f37 f38 f40 f41 f42 : Nat → Int32} {wd sg res : Int32} {se bs i w u ex gl gm p1 n1 m1 tw : Nat} (h : RTp T G f29 f30 f31 f32 f36 f37 f38 f40 f41 f42 wd sg res se bs i 3 w u ex gl gm p1 n1 m1 tw) (e : f40 i = 2) : p1 = 0 ∧ n1 = 0 ∧ m1 = 0 ∧ gl ≤ gm ∧ ex ≤ 1 ∧ tw = 1 ∧ w ≤ 24 ∧ ∃ c, res = nI c ∧ TruO G f29 c (49 - 2 * w) := by
  rcases h with ⟨h1, h2, h3, ⟨a1, a2, a3, a4⟩, ⟨a6, a5⟩, a7, h4⟩ | ⟨h1, ck, ⟨⟨b0, b1, b3, b2⟩, h2⟩, c, h3, h4⟩
  · exact absurd (e.symm.trans h1) (by decide)
  · rcases h2 with h | h | h | h | h | h | h | h | h | h | h | h
    · exact absurd h.1 (by decide)
    · exact absurd h.1 (by decide)
    · exact absurd h.1 (by decide)
    · exact absurd h.1 (by decide)
    · exact absurd h.1 (by decide)
    · exact absurd h.1 (by decide)
    · exact absurd h.1 (by decide)
    · exact absurd h.1 (by decide)
    · exact absurd (e.symm.trans h.2.2.1) (by decide)
    · (rcases h4 with h4 | h4 | h4); (exact absurd (h.2.1 ▸ h4.1) (by decide)); (exact ⟨h.2.2.2.2.2, h.2.2.2.1, h.2.2.2.2.1, b2, b0, h1, h4.2.1, c, h3, h4.2.2⟩); (exact absurd (h.2.1.symm.trans h4.1) (by decide))
    · exact absurd (e.symm.trans h.2.2.1) (by decide)
    · exact absurd (e.symm.trans h.2.2.1) (by decide)
theorem RTp.one3 {T : Nat → Nat → Int32} {G : RG} {f29 f30 f31 f32 f36 f37 f38 f40 f41 f42 : Nat → Int32} {wd sg res : Int32} {se bs i w u ex gl gm p1 n1 m1 tw : Nat} (h : RTp T G f29 f30 f31 f32 f36 f37 f38 f40 f41 f42 wd sg res se bs i 3 w u ex gl gm p1 n1 m1 tw) (e : f40 i = 3) : p1 = 0 ∧ n1 = 0 ∧ m1 = 0 ∧ gl ≤ gm ∧ ex ≤ 1 ∧ tw = 1 ∧ w ≤ 24 ∧ ∃ c, res = nI c ∧ LinO G f29 c (49 - 2 * w) := by
  rcases h with ⟨h1, h2, h3, ⟨a1, a2, a3, a4⟩, ⟨a6, a5⟩, a7, h4⟩ | ⟨h1, ck, ⟨⟨b0, b1, b3, b2⟩, h2⟩, c, h3, h4⟩
  · exact absurd (e.symm.trans h1) (by decide)
  · rcases h2 with h | h | h | h | h | h | h | h | h | h | h | h
    · exact absurd h.1 (by decide)
    · exact absurd h.1 (by decide)
    · exact absurd h.1 (by decide)
    · exact absurd h.1 (by decide)
    · exact absurd h.1 (by decide)
    · exact absurd h.1 (by decide)
    · exact absurd h.1 (by decide)
    · exact absurd h.1 (by decide)
    · exact absurd (e.symm.trans h.2.2.1) (by decide)
    · exact absurd (e.symm.trans h.2.2.1) (by decide)
    · (rcases h4 with h4 | h4 | h4); (exact ⟨h.2.2.2.2.2, h.2.2.2.1, h.2.2.2.2.1, b2, b0, h1, h4.2.1, c, h3, h4.2.2⟩); (exact absurd (h.2.1.symm.trans h4.1) (by decide)); (exact absurd (h.2.1.symm.trans h4.1) (by decide))
    · exact absurd (e.symm.trans h.2.2.1) (by decide)
theorem RTp.one4 {T : Nat → Nat → Int32} {G : RG} {f29 f30 f31 f32 f36 f37 f38 f40 f41 f42 : Nat → Int32} {wd sg res : Int32} {se bs i w u ex gl gm p1 n1 m1 tw : Nat} (h : RTp T G f29 f30 f31 f32 f36 f37 f38 f40 f41 f42 wd sg res se bs i 3 w u ex gl gm p1 n1 m1 tw) (e0 : ¬ f40 i = 0) (e1 : ¬ f40 i = 1) (e2 : ¬ f40 i = 2) (e3 : ¬ f40 i = 3) : p1 = 1 ∧ n1 = 0 ∧ m1 = 0 ∧ gl ≤ gm ∧ ex ≤ 1 ∧ tw = 1 ∧ w ≤ 24 ∧ ∃ c d, res = nI c ∧ LinO G f29 c (49 - 2 * w) ∧ f41 i = nI d ∧ LinO G f29 d (51 - 2 * w) := by
  rcases h with ⟨h1, h2, h3, ⟨a1, a2, a3, a4⟩, ⟨a6, a5⟩, a7, h4⟩ | ⟨h1, ck, ⟨⟨b0, b1, b3, b2⟩, h2⟩, c, h3, h4⟩
  · exact absurd h1 e0
  · rcases h2 with h | h | h | h | h | h | h | h | h | h | h | h
    · exact absurd h.1 (by decide)
    · exact absurd h.1 (by decide)
    · exact absurd h.1 (by decide)
    · exact absurd h.1 (by decide)
    · exact absurd h.1 (by decide)
    · exact absurd h.1 (by decide)
    · exact absurd h.1 (by decide)
    · exact absurd h.1 (by decide)
    · exact absurd h.2.2.1 e1
    · exact absurd h.2.2.1 e2
    · exact absurd h.2.2.1 e3
    · (obtain ⟨_, g1, _, g2, g3, g4, d, g5, g6⟩ := h); (rcases h4 with h4 | h4 | h4); (exact ⟨g4, g2, g3, b2, b0, h1, h4.2.1, c, d, h3, h4.2.2, g5, g6⟩); (exact absurd (g1.symm.trans h4.1) (by decide)); (exact absurd (g1.symm.trans h4.1) (by decide))
end

theorem hd_yX12_call_RX12 : yX12_call.cls = RX12 ∧ yX12_call.cls ≠ "java/lang/invoke/MethodHandle" ∧ yX12_call.cls ≠ "java/lang/invoke/VarHandle" ∧ (parseMethodDescriptor yX12_call.desc).map (fun d => d.parameters.length) = some 1 := by decide +kernel
theorem dX12_workJoined_0 : decode cX12_workJoined 0 = .ok (.aload_n 0, 1) := dk_42 (by decide +kernel)
theorem dX12_workJoined_1 : decode cX12_workJoined 1 = .ok (.getfield 182, 3) := dk_180 (by decide +kernel)
theorem dX12_workJoined_4 : decode cX12_workJoined 4 = .ok (.iload_n 1, 1) := dk_27 (by decide +kernel)
theorem dX12_workJoined_5 : decode cX12_workJoined 5 = .ok (.dup2, 1) := dk_92 (by decide +kernel)
theorem dX12_workJoined_6 : decode cX12_workJoined 6 = .ok (.iaload, 1) := dk_46 (by decide +kernel)
theorem dX12_workJoined_7 : decode cX12_workJoined 7 = .ok (.iconst 1, 1) := dk_4 (by decide +kernel)
theorem dX12_workJoined_8 : decode cX12_workJoined 8 = .ok (.iadd, 1) := dk_96 (by decide +kernel)
theorem dX12_workJoined_9 : decode cX12_workJoined 9 = .ok (.iastore, 1) := dk_79 (by decide +kernel)
theorem dX12_workJoined_10 : decode cX12_workJoined 10 = .ok (.aload_n 0, 1) := dk_42 (by decide +kernel)
theorem dX12_workJoined_11 : decode cX12_workJoined 11 = .ok (.getfield 182, 3) := dk_180 (by decide +kernel)
theorem dX12_workJoined_14 : decode cX12_workJoined 14 = .ok (.iload_n 1, 1) := dk_27 (by decide +kernel)
theorem dX12_workJoined_15 : decode cX12_workJoined 15 = .ok (.iaload, 1) := dk_46 (by decide +kernel)
theorem dX12_workJoined_16 : decode cX12_workJoined 16 = .ok (.iconst 2, 1) := dk_5 (by decide +kernel)
theorem dX12_workJoined_17 : decode cX12_workJoined 17 = .ok (.if_icmp .ne 30, 3) := dk_160 (by decide +kernel)
theorem dX12_workJoined_20 : decode cX12_workJoined 20 = .ok (.aload_n 0, 1) := dk_42 (by decide +kernel)
theorem dX12_workJoined_21 : decode cX12_workJoined 21 = .ok (.getfield 674, 3) := dk_180 (by decide +kernel)
theorem dX12_workJoined_24 : decode cX12_workJoined 24 = .ok (.aload_n 0, 1) := dk_42 (by decide +kernel)
theorem dX12_workJoined_25 : decode cX12_workJoined 25 = .ok (.getfield 110, 3) := dk_180 (by decide +kernel)
theorem dX12_workJoined_28 : decode cX12_workJoined 28 = .ok (.iload_n 2, 1) := dk_28 (by decide +kernel)
theorem dX12_workJoined_29 : decode cX12_workJoined 29 = .ok (.iaload, 1) := dk_46 (by decide +kernel)
theorem dX12_workJoined_30 : decode cX12_workJoined 30 = .ok (.bipush 10, 2) := dk_16 (by decide +kernel)
theorem dX12_workJoined_32 : decode cX12_workJoined 32 = .ok (.if_icmp .ne 7, 3) := dk_160 (by decide +kernel)
theorem dX12_workJoined_35 : decode cX12_workJoined 35 = .ok (.iconst 1, 1) := dk_4 (by decide +kernel)
theorem dX12_workJoined_36 : decode cX12_workJoined 36 = .ok (.goto 4, 3) := dk_167 (by decide +kernel)
theorem dX12_workJoined_39 : decode cX12_workJoined 39 = .ok (.iconst 0, 1) := dk_3 (by decide +kernel)
theorem dX12_workJoined_40 : decode cX12_workJoined 40 = .ok (.if_icmp .ne 7, 3) := dk_160 (by decide +kernel)
theorem dX12_workJoined_43 : decode cX12_workJoined 43 = .ok (.iconst 1, 1) := dk_4 (by decide +kernel)
theorem dX12_workJoined_44 : decode cX12_workJoined 44 = .ok (.goto 4, 3) := dk_167 (by decide +kernel)
theorem dX12_workJoined_47 : decode cX12_workJoined 47 = .ok (.iconst 0, 1) := dk_3 (by decide +kernel)
theorem dX12_workJoined_48 : decode cX12_workJoined 48 = .ok (.istore_n 3, 1) := dk_62 (by decide +kernel)
theorem dX12_workJoined_49 : decode cX12_workJoined 49 = .ok (.aload_n 0, 1) := dk_42 (by decide +kernel)
theorem dX12_workJoined_50 : decode cX12_workJoined 50 = .ok (.getfield 182, 3) := dk_180 (by decide +kernel)
theorem dX12_workJoined_53 : decode cX12_workJoined 53 = .ok (.iload_n 1, 1) := dk_27 (by decide +kernel)
theorem dX12_workJoined_54 : decode cX12_workJoined 54 = .ok (.iaload, 1) := dk_46 (by decide +kernel)
theorem dX12_workJoined_55 : decode cX12_workJoined 55 = .ok (.iconst 1, 1) := dk_4 (by decide +kernel)
theorem dX12_workJoined_56 : decode cX12_workJoined 56 = .ok (.if_icmp .ne 16, 3) := dk_160 (by decide +kernel)
theorem dX12_workJoined_59 : decode cX12_workJoined 59 = .ok (.aload_n 0, 1) := dk_42 (by decide +kernel)
theorem dX12_workJoined_60 : decode cX12_workJoined 60 = .ok (.aload_n 0, 1) := dk_42 (by decide +kernel)
theorem dX12_workJoined_61 : decode cX12_workJoined 61 = .ok (.getfield 113, 3) := dk_180 (by decide +kernel)
theorem dX12_workJoined_64 : decode cX12_workJoined 64 = .ok (.iload_n 2, 1) := dk_28 (by decide +kernel)
theorem dX12_workJoined_65 : decode cX12_workJoined 65 = .ok (.iaload, 1) := dk_46 (by decide +kernel)
theorem dX12_workJoined_66 : decode cX12_workJoined 66 = .ok (.invokevirtual 650, 3) := dk_182 (by decide +kernel)
theorem dX12_workJoined_69 : decode cX12_workJoined 69 = .ok (.goto 40, 3) := dk_167 (by decide +kernel)
theorem dX12_workJoined_72 : decode cX12_workJoined 72 = .ok (.aload_n 0, 1) := dk_42 (by decide +kernel)
theorem dX12_workJoined_73 : decode cX12_workJoined 73 = .ok (.getfield 182, 3) := dk_180 (by decide +kernel)
theorem dX12_workJoined_76 : decode cX12_workJoined 76 = .ok (.iload_n 1, 1) := dk_27 (by decide +kernel)
theorem dX12_workJoined_77 : decode cX12_workJoined 77 = .ok (.iaload, 1) := dk_46 (by decide +kernel)
theorem dX12_workJoined_78 : decode cX12_workJoined 78 = .ok (.iconst 2, 1) := dk_5 (by decide +kernel)
theorem dX12_workJoined_79 : decode cX12_workJoined 79 = .ok (.if_icmp .ne 20, 3) := dk_160 (by decide +kernel)
theorem dX12_workJoined_82 : decode cX12_workJoined 82 = .ok (.iload_n 3, 1) := dk_29 (by decide +kernel)
theorem dX12_workJoined_83 : decode cX12_workJoined 83 = .ok (.ifCond .ne 16, 3) := dk_154 (by decide +kernel)
theorem dX12_workJoined_86 : decode cX12_workJoined 86 = .ok (.aload_n 0, 1) := dk_42 (by decide +kernel)
theorem dX12_workJoined_87 : decode cX12_workJoined 87 = .ok (.aload_n 0, 1) := dk_42 (by decide +kernel)
theorem dX12_workJoined_88 : decode cX12_workJoined 88 = .ok (.getfield 116, 3) := dk_180 (by decide +kernel)
theorem dX12_workJoined_91 : decode cX12_workJoined 91 = .ok (.iload_n 2, 1) := dk_28 (by decide +kernel)
theorem dX12_workJoined_92 : decode cX12_workJoined 92 = .ok (.iaload, 1) := dk_46 (by decide +kernel)
theorem dX12_workJoined_93 : decode cX12_workJoined 93 = .ok (.invokevirtual 650, 3) := dk_182 (by decide +kernel)
theorem dX12_workJoined_96 : decode cX12_workJoined 96 = .ok (.goto 13, 3) := dk_167 (by decide +kernel)
theorem dX12_workJoined_99 : decode cX12_workJoined 99 = .ok (.aload_n 0, 1) := dk_42 (by decide +kernel)
theorem dX12_workJoined_100 : decode cX12_workJoined 100 = .ok (.dup, 1) := dk_89 (by decide +kernel)
theorem dX12_workJoined_101 : decode cX12_workJoined 101 = .ok (.getfield 647, 3) := dk_180 (by decide +kernel)
theorem dX12_workJoined_104 : decode cX12_workJoined 104 = .ok (.iconst 1, 1) := dk_4 (by decide +kernel)
theorem dX12_workJoined_105 : decode cX12_workJoined 105 = .ok (.isub, 1) := dk_100 (by decide +kernel)
theorem dX12_workJoined_106 : decode cX12_workJoined 106 = .ok (.putfield 647, 3) := dk_181 (by decide +kernel)
theorem dX12_workJoined_109 : decode cX12_workJoined 109 = .ok (.return_, 1) := dk_177 (by decide +kernel)
def wsRX12_workJoined : List Cond := .code yX12_workJoined cX12_workJoined 4 none :: ([.fieldLink RX12 182 "OptimaWorksModel" "stage" "[I", .fieldLink RX12 674 "OptimaWorksModel" "truth" "Z", .fieldLink RX12 110 "OptimaWorksModel" "kind" "[I", .fieldLink RX12 647 "OptimaWorksModel" "framed" "I", .fieldLink RX12 116 "OptimaWorksModel" "partB" "[I", .fieldLink RX12 113 "OptimaWorksModel" "partA" "[I"] ++ wsX120 ++ (wsV RX12 650 RX12 yX12_call wsRX12_call))
theorem iwsRX12_workJoined_in12 : ∀ w ∈ wsX120, w ∈ wsRX12_workJoined := fun _ h => List.mem_cons_of_mem _ (List.mem_append_left _ (List.mem_append_right _ h))
theorem gwsRX12_workJoined_0 : GoodIn wsRX12_workJoined (wsV RX12 650 RX12 yX12_call wsRX12_call) := goodIn_sub (fun _ h => List.mem_cons_of_mem _ (List.mem_append_right _ h)) (gdV (by decide +kernel) gdwsRX12_call)
theorem gdwsRX12_workJoined : wsRX12_workJoined.all goodWord = true := gdC rfl (gdA (gdA (by decide +kernel : ([.fieldLink RX12 182 "OptimaWorksModel" "stage" "[I", .fieldLink RX12 674 "OptimaWorksModel" "truth" "Z", .fieldLink RX12 110 "OptimaWorksModel" "kind" "[I", .fieldLink RX12 647 "OptimaWorksModel" "framed" "I", .fieldLink RX12 116 "OptimaWorksModel" "partB" "[I", .fieldLink RX12 113 "OptimaWorksModel" "partA" "[I"] : List Cond).all goodWord = true) gdwsX120) (gdV (by decide +kernel) gdwsRX12_call))
set_option maxHeartbeats 4000000 in
set_option maxRecDepth 100000 in
/-- workJoined(f, n) -/
theorem r_X12_workJoined (l : Launch) (dC : Nat → ClassId) (dI : Nat → Nat → Nat) (a : Nat → Nat) (k : Nat → ClassId) (h0 : Nat) (vi : Nat → Int32) (vj : Nat → Int64) (vF : Nat → Nat → Int32) (vG : Nat → Nat → Int64) (nF : Nat → Nat → Int32) (V : Nat → Prop) (wt : Nat → Nat) (dp : Nat → Nat) (pd : Nat → Nat) (nN : Nat) (kN : Nat) (sN : Nat) (la : Nat) (hN : Nat) (pN : Nat) (rN : Nat) (fN : Nat) (fr : Nat) (cN : Nat) (dN : Nat) (hnN : nN < 4000) (hfN : fN < 4299) (hkN : vF 29 nN = nI kN) (hsN : vF 53 fN = nI sN) (hfr9 : vi 89 = nI fr) (hfr1 : fr = fN + 1) (hTo : TopO nF V wt dp pd nN kN sN la hN pN rN) (hcN : vF 30 nN = nI cN) (hdN : vF 31 nN = nI dN) (hcT : KidT nF V dp pd nN 30 0 cN) (hdT : KidT nF V dp pd nN 31 0 dN) (hwN : wt cN + wt dN + 3 ≤ wt nN) (hkk : kN = 10 ∨ kN = 11) (sz : Nat) : Met l yX12_workJoined wsRX12_workJoined ({ frames := 1, cells := 0, slots := 0, locals := 21 }) (va_Pc [.ref h0, .int (nI fN), .int (nI nN)] (fun U => U.heap.size = sz ∧ va_P (dC, dI) vwCl (WR a k h0 vi vj vF vG) U.heap ∧ va_K (dC, dI) vwCl (tX12 k) U ∧ va_D (fun _ => True) (WR a k h0 vi vj vF vG))) (va_Qv (fun (u : (Nat → Int32) × (Nat → Int32) × (Nat)) => (StpO nF V wt dp pd nN kN fN hN rN (vF 52) (vF 53) (vF 54) (u.1) (u.2.1) (vF 54) (u.2.2) pN)) (fun (u : (Nat → Int32) × (Nat → Int32) × (Nat)) t => va_P (dC, dI) vwCl (WR a k h0 (fT vi 89 (nI (u.2.2))) vj (fT (fT vF 53 (u.2.1)) 52 (u.1)) vG) t.heap ∧ va_D (va_A (WR a k h0 vi vj vF vG) sz) (WR a k h0 (fT vi 89 (nI (u.2.2))) vj (fT (fT vF 53 (u.2.1)) 52 (u.1)) vG)) (va_A (WR a k h0 vi vj vF vG) sz)) 0 0 (va_A (WR a k h0 vi vj vF vG) sz) := by
  refine Met.ofW (cc := cX12_workJoined) (maxL := 4) (ret := none) (by decide) rfl ?_
  intro p e s m args below meth c s₁ B hml hv
  obtain ⟨rfl, hsz, hP, hK, hD0⟩ := hv
  have hx := B.exec
  have hb := B.bytes
  have hr := B.returns
  have hts := atoms_spec (ws := wsRX12_workJoined) B.pre
  have hown : s.vm.findClass RX12 = some m.cls := findClass_of_methodNamed B.named
  have hlocks := B.notSynchronized
  subst hsz
  have hD := hD0.self (sz := s.heap.size)
  generalize hAe : va_A (WR a k h0 vi vj vF vG) s.heap.size = A at hD ⊢
  have hA : ∀ q : Nat, s.heap.size ≤ q → A q := fun q h => by rw [← hAe]; exact Or.inr h
  have hS : va_S A s.heap s.heap [] := va_S.rf
  have hl := lv_entry ([.ref h0, .int (nI fN), .int (nI nN)]) (n := 4) (Nat.le_of_ble_eq_true rfl)
  rw [lg_entry_eq]
  generalize (lg_sl ([.ref h0, .int (nI fN), .int (nI nN)]) ++ List.replicate (4 - (lg_sl ([.ref h0, .int (nI fN), .int (nI nN)])).length) Slot.unset).toArray = ls at hl ⊢
  have hl : lv_has ls 4 [(0, .ref h0), (1, .int (nI fN)), (2, .int (nI nN))] := hl
  obtain ⟨hpN, hsd⟩ := hTo.join hkk hdT
  have hq1 := hcT.2.2.2.1
  have hq2 := hdT.2.2.2.1
  refine lv_aload_n hx hb dX12_workJoined_0 rfl (lv_at hl 0 rfl) ?_
  refine va_get (D := (dC, dI)) (ci := 12) (v := .ref (a 53)) (C := RX12) (T := TX12) (N := 163) (fs := fM (vS a vi vj)) hx hb hts iwsRX12_workJoined_in12 hown hK hP 0 rfl rfl 86 (by decide) (hts (.fieldLink RX12 182 "OptimaWorksModel" "stage" "[I") (by decide +kernel)) (fun _ h9 => h9) rfl dX12_workJoined_1 ?_
  refine lv_iload_n hx hb dX12_workJoined_4 rfl (lv_at hl 1 rfl) ?_
  refine lv_dup2_11 hx hb dX12_workJoined_5 rfl rfl ?_
  refine va_iald (cA := k 53) (n := 4300) (f := (vF 53)) hx hb hK hP 54 53 (WR_get 53 (by decide)) (TR_get 53 (by decide)) (vp_in_nI (show fN < 4300 by omega) (by omega)) dX12_workJoined_6 ?_
  refine lv_topi (fun y1 hy1 => ?_)
  obtain rfl : ((vF 53) fN) = y1 := (hy1.trans (by rw [nI_clamp (by omega)])).symm
  refine lv_topi (fun y2 hy2 => ?_)
  obtain rfl : (nI sN) = y2 := (hy2.trans (hsN)).symm
  refine lv_iconst (v := 1) hx hb dX12_workJoined_7 (by decide) ?_
  refine lv_iadd hx hb dX12_workJoined_8 ?_
  refine lv_topi (fun y3 hy3 => ?_)
  obtain rfl : (nI (sN + 1)) = y3 := (hy3.trans (nI_add sN 1)).symm
  refine va_iast (cA := k 53) (n := 4300) (f := (vF 53)) hx hb hK hP hD hS 54 53 (WR_get 53 (by decide)) (TR_get 53 (by decide)) (vp_in_nI (show fN < 4300 by omega) (by omega)) dX12_workJoined_9 (fun H locs hP hD hS => ?_)
  have hP : va_P (dC, dI) vwCl (WR a k h0 vi vj (fT vF 53 (upd (vF 53) ((nI fN)).toNatClampNeg (nI (sN + 1)))) vG) H := by rw [← WR_F 53 (by decide) _ rfl]; exact hP
  have hD : va_D A (WR a k h0 vi vj (fT vF 53 (upd (vF 53) ((nI fN)).toNatClampNeg (nI (sN + 1)))) vG) := by rw [← WR_F 53 (by decide) _ rfl]; exact hD
  refine lv_aload_n hx hb dX12_workJoined_10 rfl (lv_at hl 0 rfl) ?_
  refine va_get (D := (dC, dI)) (ci := 12) (v := .ref (a 53)) (C := RX12) (T := TX12) (N := 163) (fs := fM (vS a vi vj)) hx hb hts iwsRX12_workJoined_in12 hown hK hP 0 rfl rfl 86 (by decide) (hts (.fieldLink RX12 182 "OptimaWorksModel" "stage" "[I") (by decide +kernel)) (fun _ h9 => h9) rfl dX12_workJoined_11 ?_
  refine lv_iload_n hx hb dX12_workJoined_14 rfl (lv_at hl 1 rfl) ?_
  refine va_iald (cA := k 53) (n := 4300) (f := (upd (vF 53) ((nI fN)).toNatClampNeg (nI (sN + 1)))) hx hb hK hP 54 53 (WR_get 53 (by decide)) (TR_get 53 (by decide)) (vp_in_nI (show fN < 4300 by omega) (by omega)) dX12_workJoined_15 ?_
  refine lv_topi (fun y4 hy4 => ?_)
  obtain rfl : ((upd (vF 53) ((nI fN)).toNatClampNeg (nI (sN + 1))) fN) = y4 := (hy4.trans (by rw [nI_clamp (by omega)])).symm
  refine lv_topi (fun y5 hy5 => ?_)
  obtain rfl : (nI (sN + 1)) = y5 := (hy5.trans ((by rw [upd_at (by omega), if_pos rfl]))).symm
  refine lv_iconst (v := 2) hx hb dX12_workJoined_16 (by decide) ?_
  refine W.cut (pc := 48) (fun H locs ls stk => ∃ (sk : Int32),  stk = [.int sk] ∧ va_P (dC, dI) vwCl (WR a k h0 vi vj (fT vF 53 (upd (vF 53) ((nI fN)).toNatClampNeg (nI (sN + 1)))) vG) H ∧ va_D A (WR a k h0 vi vj (fT vF 53 (upd (vF 53) ((nI fN)).toNatClampNeg (nI (sN + 1)))) vG) ∧ va_S A s.heap H locs ∧ lv_has ls 4 [(0, .ref h0), (1, .int (nI fN)), (2, .int (nI nN))]) (fun join1 => ?_) ?_
  · refine lv_icmp_ne (tgt := 47) hx hb dX12_workJoined_17 (by decide) (fun c_17 => ?_) (fun c_17 => ?_)
    · have t_17 : (((sN + 1) : Nat) : Int) ≠ 2 := toI_ne c_17 (nI_toInt (by omega)) (by decide)
      refine lv_iconst (v := 0) hx hb dX12_workJoined_47 (by decide) ?_
      have hl : lv_has _ _ ([(0, .ref h0), (1, .int (nI fN)), (2, .int (nI nN))]) := lv_sub hl [0, 1, 2] rfl
      exact join1 _ _ _ _ ⟨0, rfl, hP, hD, hS, hl⟩
    · have t_17 : (((sN + 1) : Nat) : Int) = 2 := toI_nne c_17 (nI_toInt (by omega)) (by decide)
      refine lv_aload_n hx hb dX12_workJoined_20 rfl (lv_at hl 0 rfl) ?_
      refine va_get (D := (dC, dI)) (ci := 12) (v := .int (vi 84)) (C := RX12) (T := TX12) (N := 163) (fs := fM (vS a vi vj)) hx hb hts iwsRX12_workJoined_in12 hown hK hP 0 rfl rfl 84 (by decide) (hts (.fieldLink RX12 674 "OptimaWorksModel" "truth" "Z") (by decide +kernel)) (fun _ h9 => h9) rfl dX12_workJoined_21 ?_
      refine lv_aload_n hx hb dX12_workJoined_24 rfl (lv_at hl 0 rfl) ?_
      refine va_get (D := (dC, dI)) (ci := 12) (v := .ref (a 29)) (C := RX12) (T := TX12) (N := 163) (fs := fM (vS a vi vj)) hx hb hts iwsRX12_workJoined_in12 hown hK hP 0 rfl rfl 53 (by decide) (hts (.fieldLink RX12 110 "OptimaWorksModel" "kind" "[I") (by decide +kernel)) (fun _ h9 => h9) rfl dX12_workJoined_25 ?_
      refine lv_iload_n hx hb dX12_workJoined_28 rfl (lv_at hl 2 rfl) ?_
      refine va_iald (cA := k 29) (n := 4200) (f := (vF 29)) hx hb hK hP 30 29 (WR_get 29 (by decide)) (TR_get 29 (by decide)) (vp_in_nI (show nN < 4200 by omega) (by omega)) dX12_workJoined_29 ?_
      refine lv_topi (fun y6 hy6 => ?_)
      obtain rfl : ((vF 29) nN) = y6 := (hy6.trans (by rw [nI_clamp (by omega)])).symm
      refine lv_bipush (v := 10) hx hb dX12_workJoined_30 (by decide) ?_
      refine lv_icmp_ne (tgt := 39) hx hb dX12_workJoined_32 (by decide) (fun c_32 => ?_) (fun c_32 => ?_)
      · have t_32 : (((vF 29) nN)).toInt ≠ 10 := toI_ne c_32 rfl (by decide)
        refine lv_iconst (v := 0) hx hb dX12_workJoined_39 (by decide) ?_
        refine lv_icmp_ne (tgt := 47) hx hb dX12_workJoined_40 (by decide) (fun c_40 => ?_) (fun c_40 => ?_)
        · have t_40 : ((vi 84)).toInt ≠ 0 := toI_ne c_40 rfl (by decide)
          refine lv_iconst (v := 0) hx hb dX12_workJoined_47 (by decide) ?_
          have hl : lv_has _ _ ([(0, .ref h0), (1, .int (nI fN)), (2, .int (nI nN))]) := lv_sub hl [0, 1, 2] rfl
          exact join1 _ _ _ _ ⟨0, rfl, hP, hD, hS, hl⟩
        · have t_40 : ((vi 84)).toInt = 0 := toI_nne c_40 rfl (by decide)
          refine lv_iconst (v := 1) hx hb dX12_workJoined_43 (by decide) ?_
          refine lv_goto (tgt := 48) hx hb dX12_workJoined_44 (by decide) ?_
          have hl : lv_has _ _ ([(0, .ref h0), (1, .int (nI fN)), (2, .int (nI nN))]) := lv_sub hl [0, 1, 2] rfl
          exact join1 _ _ _ _ ⟨1, rfl, hP, hD, hS, hl⟩
      · have t_32 : (((vF 29) nN)).toInt = 10 := toI_nne c_32 rfl (by decide)
        refine lv_iconst (v := 1) hx hb dX12_workJoined_35 (by decide) ?_
        refine lv_goto (tgt := 40) hx hb dX12_workJoined_36 (by decide) ?_
        refine lv_icmp_ne (tgt := 47) hx hb dX12_workJoined_40 (by decide) (fun c_40 => ?_) (fun c_40 => ?_)
        · have t_40 : ((vi 84)).toInt ≠ 1 := toI_ne c_40 rfl (by decide)
          refine lv_iconst (v := 0) hx hb dX12_workJoined_47 (by decide) ?_
          have hl : lv_has _ _ ([(0, .ref h0), (1, .int (nI fN)), (2, .int (nI nN))]) := lv_sub hl [0, 1, 2] rfl
          exact join1 _ _ _ _ ⟨0, rfl, hP, hD, hS, hl⟩
        · have t_40 : ((vi 84)).toInt = 1 := toI_nne c_40 rfl (by decide)
          refine lv_iconst (v := 1) hx hb dX12_workJoined_43 (by decide) ?_
          refine lv_goto (tgt := 48) hx hb dX12_workJoined_44 (by decide) ?_
          have hl : lv_has _ _ ([(0, .ref h0), (1, .int (nI fN)), (2, .int (nI nN))]) := lv_sub hl [0, 1, 2] rfl
          exact join1 _ _ _ _ ⟨1, rfl, hP, hD, hS, hl⟩
  · rintro H locs ls stk ⟨sk, rfl, hP, hD, hS, hl⟩
    refine lv_istore_n hx hb dX12_workJoined_48 rfl hl (by decide) rfl (fun ls (hl : lv_has ls _ ([(3, .int sk), (0, .ref h0), (1, .int (nI fN)), (2, .int (nI nN))])) => ?_)
    refine lv_aload_n hx hb dX12_workJoined_49 rfl (lv_at hl 1 rfl) ?_
    refine va_get (D := (dC, dI)) (ci := 12) (v := .ref (a 53)) (C := RX12) (T := TX12) (N := 163) (fs := fM (vS a vi vj)) hx hb hts iwsRX12_workJoined_in12 hown hK hP 0 rfl rfl 86 (by decide) (hts (.fieldLink RX12 182 "OptimaWorksModel" "stage" "[I") (by decide +kernel)) (fun _ h9 => h9) rfl dX12_workJoined_50 ?_
    refine lv_iload_n hx hb dX12_workJoined_53 rfl (lv_at hl 2 rfl) ?_
    refine va_iald (cA := k 53) (n := 4300) (f := (upd (vF 53) ((nI fN)).toNatClampNeg (nI (sN + 1)))) hx hb hK hP 54 53 (WR_get 53 (by decide)) (TR_get 53 (by decide)) (vp_in_nI (show fN < 4300 by omega) (by omega)) dX12_workJoined_54 ?_
    refine lv_topi (fun y7 hy7 => ?_)
    obtain rfl : ((upd (vF 53) ((nI fN)).toNatClampNeg (nI (sN + 1))) fN) = y7 := (hy7.trans (by rw [nI_clamp (by omega)])).symm
    refine lv_topi (fun y8 hy8 => ?_)
    obtain rfl : (nI (sN + 1)) = y8 := (hy8.trans ((by rw [upd_at (by omega), if_pos rfl]))).symm
    refine lv_iconst (v := 1) hx hb dX12_workJoined_55 (by decide) ?_
    refine lv_icmp_ne (tgt := 72) hx hb dX12_workJoined_56 (by decide) (fun c_56 => ?_) (fun c_56 => ?_)
    · have t_56 : (((sN + 1) : Nat) : Int) ≠ 1 := toI_ne c_56 (nI_toInt (by omega)) (by decide)
      refine lv_aload_n hx hb dX12_workJoined_72 rfl (lv_at hl 1 rfl) ?_
      refine va_get (D := (dC, dI)) (ci := 12) (v := .ref (a 53)) (C := RX12) (T := TX12) (N := 163) (fs := fM (vS a vi vj)) hx hb hts iwsRX12_workJoined_in12 hown hK hP 0 rfl rfl 86 (by decide) (hts (.fieldLink RX12 182 "OptimaWorksModel" "stage" "[I") (by decide +kernel)) (fun _ h9 => h9) rfl dX12_workJoined_73 ?_
      refine lv_iload_n hx hb dX12_workJoined_76 rfl (lv_at hl 2 rfl) ?_
      refine va_iald (cA := k 53) (n := 4300) (f := (upd (vF 53) ((nI fN)).toNatClampNeg (nI (sN + 1)))) hx hb hK hP 54 53 (WR_get 53 (by decide)) (TR_get 53 (by decide)) (vp_in_nI (show fN < 4300 by omega) (by omega)) dX12_workJoined_77 ?_
      refine lv_topi (fun y9 hy9 => ?_)
      obtain rfl : ((upd (vF 53) ((nI fN)).toNatClampNeg (nI (sN + 1))) fN) = y9 := (hy9.trans (by rw [nI_clamp (by omega)])).symm
      refine lv_topi (fun y10 hy10 => ?_)
      obtain rfl : (nI (sN + 1)) = y10 := (hy10.trans ((by rw [upd_at (by omega), if_pos rfl]))).symm
      refine lv_iconst (v := 2) hx hb dX12_workJoined_78 (by decide) ?_
      refine lv_icmp_ne (tgt := 99) hx hb dX12_workJoined_79 (by decide) (fun c_79 => ?_) (fun c_79 => ?_)
      · have t_79 : (((sN + 1) : Nat) : Int) ≠ 2 := toI_ne c_79 (nI_toInt (by omega)) (by decide)
        refine lv_aload_n hx hb dX12_workJoined_99 rfl (lv_at hl 1 rfl) ?_
        refine lv_dup hx hb dX12_workJoined_100 rfl ?_
        refine va_get (D := (dC, dI)) (ci := 12) (v := .int (vi 89)) (C := RX12) (T := TX12) (N := 163) (fs := fM (vS a vi vj)) hx hb hts iwsRX12_workJoined_in12 hown hK hP 0 rfl rfl 89 (by decide) (hts (.fieldLink RX12 647 "OptimaWorksModel" "framed" "I") (by decide +kernel)) (fun _ h9 => h9) rfl dX12_workJoined_101 ?_
        refine lv_topi (fun y11 hy11 => ?_)
        obtain rfl : (nI fr) = y11 := (hy11.trans (hfr9)).symm
        refine lv_iconst (v := 1) hx hb dX12_workJoined_104 (by decide) ?_
        refine lv_isub hx hb dX12_workJoined_105 ?_
        refine lv_topi (fun y12 hy12 => ?_)
        obtain rfl : (nI (fr - 1)) = y12 := (hy12.trans (pk_sub (a := fr) (b := 1) (by omega))).symm
        refine va_put (D := (dC, dI)) (ci := 12) (v := .int (nI (fr - 1))) (ty := .int) (C := RX12) (T := TX12) (N := 163) (fs := fM (vS a vi vj)) hx hb hts iwsRX12_workJoined_in12 tyX12 tyX12_ok nmX12 hown hK hP hD hS 0 rfl rfl 89 (by decide) (hts (.fieldLink RX12 647 "OptimaWorksModel" "framed" "I") (by decide +kernel)) (fun _ h9 => h9) rfl (by decide +kernel) rfl rfl (Nat.le_of_ble_eq_true rfl) dX12_workJoined_106 (fun H locs hP hD hS => ?_)
        have hP : va_P (dC, dI) vwCl (WR a k h0 (fT vi 89 (nI (fr - 1))) vj (fT vF 53 (upd (vF 53) ((nI fN)).toNatClampNeg (nI (sN + 1)))) vG) H := by rw [← WR_i 89 _ rfl]; exact hP
        have hD : va_D A (WR a k h0 (fT vi 89 (nI (fr - 1))) vj (fT vF 53 (upd (vF 53) ((nI fN)).toNatClampNeg (nI (sN + 1)))) vG) := by rw [← WR_i 89 _ rfl]; exact hD
        refine W.widen (k := 0) (n := 0) (by decide +kernel) (by decide +kernel) ?_
        have e9 : fT (fT vF 53 (upd (vF 53) ((nI fN)).toNatClampNeg (nI (sN + 1)))) 52 (vF 52) = fT vF 53 (upd (vF 53) ((nI fN)).toNatClampNeg (nI (sN + 1))) := fT_id _ _ (fT_ne _ _ (Nat.ne_of_beq_eq_false rfl))
        have hP : va_P (dC, dI) vwCl (WR a k h0 (fT vi 89 (nI (fr - 1))) vj (fT (fT vF 53 (upd (vF 53) ((nI fN)).toNatClampNeg (nI (sN + 1)))) 52 (vF 52)) vG) H := by rw [e9]; exact hP
        have hD : va_D A (WR a k h0 (fT vi 89 (nI (fr - 1))) vj (fT (fT vF 53 (upd (vF 53) ((nI fN)).toNatClampNeg (nI (sN + 1)))) 52 (vF 52)) vG) := by rw [e9]; exact hD
        clear e9
        exact W.vret hx hb hr (fun t9_ ht hW => ⟨⟨((vF 52), (upd (vF 53) ((nI fN)).toNatClampNeg (nI (sN + 1))), (fr - 1)), rfl, by (try dsimp only); exact StpO.pop hfN hfr1 (fun _ _ => rfl) (by rw [if_neg (by omega)]; omega), by rw [ht]; exact hP, hD⟩, hS.F ht⟩) hS.2.2 dX12_workJoined_109
      · have t_79 : (((sN + 1) : Nat) : Int) = 2 := toI_nne c_79 (nI_toInt (by omega)) (by decide)
        refine lv_iload_n hx hb dX12_workJoined_82 rfl (lv_at hl 0 rfl) ?_
        refine lv_if_ne (tgt := 99) hx hb dX12_workJoined_83 (by decide) (fun c_83 => ?_) (fun c_83 => ?_)
        · have t_83 : (sk).toInt ≠ 0 := toI_ne c_83 rfl (by decide)
          refine lv_aload_n hx hb dX12_workJoined_99 rfl (lv_at hl 1 rfl) ?_
          refine lv_dup hx hb dX12_workJoined_100 rfl ?_
          refine va_get (D := (dC, dI)) (ci := 12) (v := .int (vi 89)) (C := RX12) (T := TX12) (N := 163) (fs := fM (vS a vi vj)) hx hb hts iwsRX12_workJoined_in12 hown hK hP 0 rfl rfl 89 (by decide) (hts (.fieldLink RX12 647 "OptimaWorksModel" "framed" "I") (by decide +kernel)) (fun _ h9 => h9) rfl dX12_workJoined_101 ?_
          refine lv_topi (fun y13 hy13 => ?_)
          obtain rfl : (nI fr) = y13 := (hy13.trans (hfr9)).symm
          refine lv_iconst (v := 1) hx hb dX12_workJoined_104 (by decide) ?_
          refine lv_isub hx hb dX12_workJoined_105 ?_
          refine lv_topi (fun y14 hy14 => ?_)
          obtain rfl : (nI (fr - 1)) = y14 := (hy14.trans (pk_sub (a := fr) (b := 1) (by omega))).symm
          refine va_put (D := (dC, dI)) (ci := 12) (v := .int (nI (fr - 1))) (ty := .int) (C := RX12) (T := TX12) (N := 163) (fs := fM (vS a vi vj)) hx hb hts iwsRX12_workJoined_in12 tyX12 tyX12_ok nmX12 hown hK hP hD hS 0 rfl rfl 89 (by decide) (hts (.fieldLink RX12 647 "OptimaWorksModel" "framed" "I") (by decide +kernel)) (fun _ h9 => h9) rfl (by decide +kernel) rfl rfl (Nat.le_of_ble_eq_true rfl) dX12_workJoined_106 (fun H locs hP hD hS => ?_)
          have hP : va_P (dC, dI) vwCl (WR a k h0 (fT vi 89 (nI (fr - 1))) vj (fT vF 53 (upd (vF 53) ((nI fN)).toNatClampNeg (nI (sN + 1)))) vG) H := by rw [← WR_i 89 _ rfl]; exact hP
          have hD : va_D A (WR a k h0 (fT vi 89 (nI (fr - 1))) vj (fT vF 53 (upd (vF 53) ((nI fN)).toNatClampNeg (nI (sN + 1)))) vG) := by rw [← WR_i 89 _ rfl]; exact hD
          refine W.widen (k := 0) (n := 0) (by decide +kernel) (by decide +kernel) ?_
          have e9 : fT (fT vF 53 (upd (vF 53) ((nI fN)).toNatClampNeg (nI (sN + 1)))) 52 (vF 52) = fT vF 53 (upd (vF 53) ((nI fN)).toNatClampNeg (nI (sN + 1))) := fT_id _ _ (fT_ne _ _ (Nat.ne_of_beq_eq_false rfl))
          have hP : va_P (dC, dI) vwCl (WR a k h0 (fT vi 89 (nI (fr - 1))) vj (fT (fT vF 53 (upd (vF 53) ((nI fN)).toNatClampNeg (nI (sN + 1)))) 52 (vF 52)) vG) H := by rw [e9]; exact hP
          have hD : va_D A (WR a k h0 (fT vi 89 (nI (fr - 1))) vj (fT (fT vF 53 (upd (vF 53) ((nI fN)).toNatClampNeg (nI (sN + 1)))) 52 (vF 52)) vG) := by rw [e9]; exact hD
          clear e9
          exact W.vret hx hb hr (fun t9_ ht hW => ⟨⟨((vF 52), (upd (vF 53) ((nI fN)).toNatClampNeg (nI (sN + 1))), (fr - 1)), rfl, by (try dsimp only); exact StpO.pop hfN hfr1 (fun _ _ => rfl) (by rw [if_neg (by omega)]; omega), by rw [ht]; exact hP, hD⟩, hS.F ht⟩) hS.2.2 dX12_workJoined_109
        · have t_83 : (sk).toInt = 0 := toI_nne c_83 rfl (by decide)
          refine lv_aload_n hx hb dX12_workJoined_86 rfl (lv_at hl 1 rfl) ?_
          refine lv_aload_n hx hb dX12_workJoined_87 rfl (lv_at hl 1 rfl) ?_
          refine va_get (D := (dC, dI)) (ci := 12) (v := .ref (a 31)) (C := RX12) (T := TX12) (N := 163) (fs := fM (vS a vi vj)) hx hb hts iwsRX12_workJoined_in12 hown hK hP 0 rfl rfl 55 (by decide) (hts (.fieldLink RX12 116 "OptimaWorksModel" "partB" "[I") (by decide +kernel)) (fun _ h9 => h9) rfl dX12_workJoined_88 ?_
          refine lv_iload_n hx hb dX12_workJoined_91 rfl (lv_at hl 3 rfl) ?_
          refine va_iald (cA := k 31) (n := 4200) (f := (vF 31)) hx hb hK hP 32 31 (WR_get 31 (by decide)) (TR_get 31 (by decide)) (vp_in_nI (show nN < 4200 by omega) (by omega)) dX12_workJoined_92 ?_
          refine lv_topi (fun y15 hy15 => ?_)
          obtain rfl : ((vF 31) nN) = y15 := (hy15.trans (by rw [nI_clamp (by omega)])).symm
          refine lv_topi (fun y16 hy16 => ?_)
          obtain rfl : (nI dN) = y16 := (hy16.trans (hdN)).symm
          have hFc := allFree hD hS hA
          refine va_callv (va_runV (As := [.int (nI dN)]) (rest := []) ⟨hx, hb, hml, hown, hts⟩ (r_X12_call l dC dI a k h0 vi vj (fT vF 53 (upd (vF 53) ((nI fN)).toNatClampNeg (nI (sN + 1)))) vG (nI dN) fr hfr9 (by first | assumption | decide | omega | rfl) H.size) (cwV 1 hts gwsRX12_workJoined_0 rfl rfl rfl hd_yX12_call_RX12 (by decide +kernel)) (fz_pre (va_recv hK hP (ci := 12) (q0 := 0) rfl rfl) hP hK hD) rfl rfl hl.1 rfl (lv_room (Nat.le_of_ble_eq_true rfl)) dX12_workJoined_93 (by decide +kernel)) hS (fun q _ h => hFc q h) hFc (fun u t9_ H locs ht hvm hw9 hB9 hz1 hk1 hS => ?_)
          have hP : va_P (dC, dI) vwCl (WR a k h0 (fT vi 89 (nI (fr + 1))) vj (fT (fT (fT vF 53 (upd (vF 53) ((nI fN)).toNatClampNeg (nI (sN + 1)))) 52 (upd (vF 52) (nI fr).toNatClampNeg (nI dN))) 53 (upd (upd (vF 53) ((nI fN)).toNatClampNeg (nI (sN + 1))) (nI fr).toNatClampNeg 0)) vG) H := fz_P ht hB9.1
          have hD : va_D A (WR a k h0 (fT vi 89 (nI (fr + 1))) vj (fT (fT (fT vF 53 (upd (vF 53) ((nI fN)).toNatClampNeg (nI (sN + 1)))) 52 (upd (vF 52) (nI fr).toNatClampNeg (nI dN))) 53 (upd (upd (vF 53) ((nI fN)).toNatClampNeg (nI (sN + 1))) (nI fr).toNatClampNeg 0)) vG) := hB9.2.weaken (fun _ q _ h => hFc q.1 h)
          have e9 : fT (fT vF 53 (upd (upd (vF 53) ((nI fN)).toNatClampNeg (nI (sN + 1))) (nI fr).toNatClampNeg 0)) 52 (upd (vF 52) (nI fr).toNatClampNeg (nI dN)) = fT (fT (fT vF 53 (upd (vF 53) ((nI fN)).toNatClampNeg (nI (sN + 1)))) 52 (upd (vF 52) (nI fr).toNatClampNeg (nI dN))) 53 (upd (upd (vF 53) ((nI fN)).toNatClampNeg (nI (sN + 1))) (nI fr).toNatClampNeg 0) := ((fT_sw _ _ _ (Nat.ne_of_beq_eq_false rfl)).trans (congrArg (fun g9 => fT g9 52 (upd (vF 52) (nI fr).toNatClampNeg (nI dN))) (fT_sm _ _ _ _))).symm
          rw [← e9] at hP hD
          clear e9
          have hP : va_P (dC, dI) vwCl (WR a k h0 (fT vi 89 (nI (fr + 1))) vj (fT (fT vF 53 (upd (upd (vF 53) ((nI fN)).toNatClampNeg (nI (sN + 1))) (nI fr).toNatClampNeg 0)) 52 (upd (vF 52) (nI fr).toNatClampNeg (nI dN))) vG) H := hP
          have hD : va_D A (WR a k h0 (fT vi 89 (nI (fr + 1))) vj (fT (fT vF 53 (upd (upd (vF 53) ((nI fN)).toNatClampNeg (nI (sN + 1))) (nI fr).toNatClampNeg 0)) 52 (upd (vF 52) (nI fr).toNatClampNeg (nI dN))) vG) := hD
          refine lv_goto (tgt := 109) hx hb dX12_workJoined_96 (by decide) ?_
          refine W.widen (k := 0) (n := 0) (by decide +kernel) (by decide +kernel) ?_
          exact W.vret hx hb hr (fun t9_ ht hW => ⟨⟨((upd (vF 52) (nI fr).toNatClampNeg (nI dN)), (upd (upd (vF 53) ((nI fN)).toNatClampNeg (nI (sN + 1))) (nI fr).toNatClampNeg 0), (fr + 1)), rfl, by (try dsimp only); (obtain rfl : sN = 1 := by omega); (obtain rfl : pN = hN := hpN); exact StpO.push 2 la 1 hfN hfr1 (fun _ _ => rfl) (fun h9 => absurd h9 (by omega)) hdT.2.1 hdT.2.2.1 (by omega) (WtO.j2 hkk hdT.2.2.2.2 (Nat.le_refl _)) (by omega), by rw [ht]; exact hP, hD⟩, hS.F ht⟩) hS.2.2 dX12_workJoined_109
    · have t_56 : (((sN + 1) : Nat) : Int) = 1 := toI_nne c_56 (nI_toInt (by omega)) (by decide)
      refine lv_aload_n hx hb dX12_workJoined_59 rfl (lv_at hl 1 rfl) ?_
      refine lv_aload_n hx hb dX12_workJoined_60 rfl (lv_at hl 1 rfl) ?_
      refine va_get (D := (dC, dI)) (ci := 12) (v := .ref (a 30)) (C := RX12) (T := TX12) (N := 163) (fs := fM (vS a vi vj)) hx hb hts iwsRX12_workJoined_in12 hown hK hP 0 rfl rfl 54 (by decide) (hts (.fieldLink RX12 113 "OptimaWorksModel" "partA" "[I") (by decide +kernel)) (fun _ h9 => h9) rfl dX12_workJoined_61 ?_
      refine lv_iload_n hx hb dX12_workJoined_64 rfl (lv_at hl 3 rfl) ?_
      refine va_iald (cA := k 30) (n := 4200) (f := (vF 30)) hx hb hK hP 31 30 (WR_get 30 (by decide)) (TR_get 30 (by decide)) (vp_in_nI (show nN < 4200 by omega) (by omega)) dX12_workJoined_65 ?_
      refine lv_topi (fun y17 hy17 => ?_)
      obtain rfl : ((vF 30) nN) = y17 := (hy17.trans (by rw [nI_clamp (by omega)])).symm
      refine lv_topi (fun y18 hy18 => ?_)
      obtain rfl : (nI cN) = y18 := (hy18.trans (hcN)).symm
      have hFc := allFree hD hS hA
      refine va_callv (va_runV (As := [.int (nI cN)]) (rest := []) ⟨hx, hb, hml, hown, hts⟩ (r_X12_call l dC dI a k h0 vi vj (fT vF 53 (upd (vF 53) ((nI fN)).toNatClampNeg (nI (sN + 1)))) vG (nI cN) fr hfr9 (by first | assumption | decide | omega | rfl) H.size) (cwV 1 hts gwsRX12_workJoined_0 rfl rfl rfl hd_yX12_call_RX12 (by decide +kernel)) (fz_pre (va_recv hK hP (ci := 12) (q0 := 0) rfl rfl) hP hK hD) rfl rfl hl.1 rfl (lv_room (Nat.le_of_ble_eq_true rfl)) dX12_workJoined_66 (by decide +kernel)) hS (fun q _ h => hFc q h) hFc (fun u t9_ H locs ht hvm hw9 hB9 hz1 hk1 hS => ?_)
      have hP : va_P (dC, dI) vwCl (WR a k h0 (fT vi 89 (nI (fr + 1))) vj (fT (fT (fT vF 53 (upd (vF 53) ((nI fN)).toNatClampNeg (nI (sN + 1)))) 52 (upd (vF 52) (nI fr).toNatClampNeg (nI cN))) 53 (upd (upd (vF 53) ((nI fN)).toNatClampNeg (nI (sN + 1))) (nI fr).toNatClampNeg 0)) vG) H := fz_P ht hB9.1
      have hD : va_D A (WR a k h0 (fT vi 89 (nI (fr + 1))) vj (fT (fT (fT vF 53 (upd (vF 53) ((nI fN)).toNatClampNeg (nI (sN + 1)))) 52 (upd (vF 52) (nI fr).toNatClampNeg (nI cN))) 53 (upd (upd (vF 53) ((nI fN)).toNatClampNeg (nI (sN + 1))) (nI fr).toNatClampNeg 0)) vG) := hB9.2.weaken (fun _ q _ h => hFc q.1 h)
      have e9 : fT (fT vF 53 (upd (upd (vF 53) ((nI fN)).toNatClampNeg (nI (sN + 1))) (nI fr).toNatClampNeg 0)) 52 (upd (vF 52) (nI fr).toNatClampNeg (nI cN)) = fT (fT (fT vF 53 (upd (vF 53) ((nI fN)).toNatClampNeg (nI (sN + 1)))) 52 (upd (vF 52) (nI fr).toNatClampNeg (nI cN))) 53 (upd (upd (vF 53) ((nI fN)).toNatClampNeg (nI (sN + 1))) (nI fr).toNatClampNeg 0) := ((fT_sw _ _ _ (Nat.ne_of_beq_eq_false rfl)).trans (congrArg (fun g9 => fT g9 52 (upd (vF 52) (nI fr).toNatClampNeg (nI cN))) (fT_sm _ _ _ _))).symm
      rw [← e9] at hP hD
      clear e9
      have hP : va_P (dC, dI) vwCl (WR a k h0 (fT vi 89 (nI (fr + 1))) vj (fT (fT vF 53 (upd (upd (vF 53) ((nI fN)).toNatClampNeg (nI (sN + 1))) (nI fr).toNatClampNeg 0)) 52 (upd (vF 52) (nI fr).toNatClampNeg (nI cN))) vG) H := hP
      have hD : va_D A (WR a k h0 (fT vi 89 (nI (fr + 1))) vj (fT (fT vF 53 (upd (upd (vF 53) ((nI fN)).toNatClampNeg (nI (sN + 1))) (nI fr).toNatClampNeg 0)) 52 (upd (vF 52) (nI fr).toNatClampNeg (nI cN))) vG) := hD
      refine lv_goto (tgt := 109) hx hb dX12_workJoined_69 (by decide) ?_
      refine W.widen (k := 0) (n := 0) (by decide +kernel) (by decide +kernel) ?_
      exact W.vret hx hb hr (fun t9_ ht hW => ⟨⟨((upd (vF 52) (nI fr).toNatClampNeg (nI cN)), (upd (upd (vF 53) ((nI fN)).toNatClampNeg (nI (sN + 1))) (nI fr).toNatClampNeg 0), (fr + 1)), rfl, by (try dsimp only); (obtain rfl : sN = 0 := by omega); (obtain rfl : pN = hN := hpN); exact StpO.push 1 la (wt dN + 2) hfN hfr1 (fun _ _ => rfl) (fun h9 => absurd h9 (by omega)) hcT.2.1 hcT.2.2.1 (by omega) (WtO.j1 hkk hcT.2.2.2.2 hdT (Nat.le_refl _)) (by omega), by rw [ht]; exact hP, hD⟩, hS.F ht⟩) hS.2.2 dX12_workJoined_109

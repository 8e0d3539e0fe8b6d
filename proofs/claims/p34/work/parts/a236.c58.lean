theorem hd_yX12_placesOf_RX12 : yX12_placesOf.cls = RX12 ∧ yX12_placesOf.cls ≠ "java/lang/invoke/MethodHandle" ∧ yX12_placesOf.cls ≠ "java/lang/invoke/VarHandle" ∧ (parseMethodDescriptor yX12_placesOf.desc).map (fun d => d.parameters.length) = some 1 := by decide +kernel
theorem hd_yX12_member_RX12 : yX12_member.cls = RX12 ∧ yX12_member.cls ≠ "java/lang/invoke/MethodHandle" ∧ yX12_member.cls ≠ "java/lang/invoke/VarHandle" ∧ (parseMethodDescriptor yX12_member.desc).map (fun d => d.parameters.length) = some 2 := by decide +kernel
theorem hd_yX12_nought_RX12 : yX12_nought.cls = RX12 ∧ yX12_nought.cls ≠ "java/lang/invoke/MethodHandle" ∧ yX12_nought.cls ≠ "java/lang/invoke/VarHandle" ∧ (parseMethodDescriptor yX12_nought.desc).map (fun d => d.parameters.length) = some 1 := by decide +kernel
theorem dX12_placesOf_0 : decode cX12_placesOf 0 = .ok (.aload_n 0, 1) := dk_42 (by decide +kernel)
theorem dX12_placesOf_1 : decode cX12_placesOf 1 = .ok (.getfield 110, 3) := dk_180 (by decide +kernel)
theorem dX12_placesOf_4 : decode cX12_placesOf 4 = .ok (.iload_n 1, 1) := dk_27 (by decide +kernel)
theorem dX12_placesOf_5 : decode cX12_placesOf 5 = .ok (.iaload, 1) := dk_46 (by decide +kernel)
theorem dX12_placesOf_6 : decode cX12_placesOf 6 = .ok (.iconst 2, 1) := dk_5 (by decide +kernel)
theorem dX12_placesOf_7 : decode cX12_placesOf 7 = .ok (.if_icmp .ne 17, 3) := dk_160 (by decide +kernel)
theorem dX12_placesOf_10 : decode cX12_placesOf 10 = .ok (.aload_n 0, 1) := dk_42 (by decide +kernel)
theorem dX12_placesOf_11 : decode cX12_placesOf 11 = .ok (.getfield 77, 3) := dk_180 (by decide +kernel)
theorem dX12_placesOf_14 : decode cX12_placesOf 14 = .ok (.aload_n 0, 1) := dk_42 (by decide +kernel)
theorem dX12_placesOf_15 : decode cX12_placesOf 15 = .ok (.getfield 113, 3) := dk_180 (by decide +kernel)
theorem dX12_placesOf_18 : decode cX12_placesOf 18 = .ok (.iload_n 1, 1) := dk_27 (by decide +kernel)
theorem dX12_placesOf_19 : decode cX12_placesOf 19 = .ok (.iaload, 1) := dk_46 (by decide +kernel)
theorem dX12_placesOf_20 : decode cX12_placesOf 20 = .ok (.iaload, 1) := dk_46 (by decide +kernel)
theorem dX12_placesOf_21 : decode cX12_placesOf 21 = .ok (.goto 14, 3) := dk_167 (by decide +kernel)
theorem dX12_placesOf_24 : decode cX12_placesOf 24 = .ok (.aload_n 0, 1) := dk_42 (by decide +kernel)
theorem dX12_placesOf_25 : decode cX12_placesOf 25 = .ok (.getfield 95, 3) := dk_180 (by decide +kernel)
theorem dX12_placesOf_28 : decode cX12_placesOf 28 = .ok (.aload_n 0, 1) := dk_42 (by decide +kernel)
theorem dX12_placesOf_29 : decode cX12_placesOf 29 = .ok (.getfield 113, 3) := dk_180 (by decide +kernel)
theorem dX12_placesOf_32 : decode cX12_placesOf 32 = .ok (.iload_n 1, 1) := dk_27 (by decide +kernel)
theorem dX12_placesOf_33 : decode cX12_placesOf 33 = .ok (.iaload, 1) := dk_46 (by decide +kernel)
theorem dX12_placesOf_34 : decode cX12_placesOf 34 = .ok (.iaload, 1) := dk_46 (by decide +kernel)
theorem dX12_placesOf_35 : decode cX12_placesOf 35 = .ok (.ireturn, 1) := dk_172 (by decide +kernel)
def wsRX12_placesOf : List Cond := .code yX12_placesOf cX12_placesOf 2 (some .int) :: ([.fieldLink RX12 110 "OptimaWorksModel" "kind" "[I", .fieldLink RX12 95 "OptimaWorksModel" "varPlaces" "[I", .fieldLink RX12 113 "OptimaWorksModel" "partA" "[I", .fieldLink RX12 77 "OptimaWorksModel" "paramPlaces" "[I"] ++ wsX120)
theorem iwsRX12_placesOf_in12 : ∀ w ∈ wsX120, w ∈ wsRX12_placesOf := fun _ h => List.mem_cons_of_mem _ (List.mem_append_right _ h)
theorem gdwsRX12_placesOf : wsRX12_placesOf.all goodWord = true := gdC rfl (gdA (by decide +kernel : ([.fieldLink RX12 110 "OptimaWorksModel" "kind" "[I", .fieldLink RX12 95 "OptimaWorksModel" "varPlaces" "[I", .fieldLink RX12 113 "OptimaWorksModel" "partA" "[I", .fieldLink RX12 77 "OptimaWorksModel" "paramPlaces" "[I"] : List Cond).all goodWord = true) gdwsX120)
set_option maxHeartbeats 4000000 in
set_option maxRecDepth 100000 in
/-- placesOf(n) -/
theorem r_X12_placesOf (l : Launch) (dC : Nat → ClassId) (dI : Nat → Nat → Nat) (a : Nat → Nat) (k : Nat → ClassId) (h0 : Nat) (vi : Nat → Int32) (vj : Nat → Int64) (vF : Nat → Nat → Int32) (vG : Nat → Nat → Int64) (nN : Nat) (kN : Nat) (aN : Nat) (plN : Nat) (hnN : nN < 4000) (hkN : vF 29 nN = nI kN) (haN : vF 30 nN = nI aN) (haN4 : aN < 44) (hkk : Kd23 kN) (hk23 : 2 ≤ kN ∧ kN ≤ 3) (hP2 : kN = 2 → vF 18 aN = nI plN) (hP3 : kN = 3 → vF 24 aN = nI plN) (sz : Nat) : Met l yX12_placesOf wsRX12_placesOf ({ frames := 0, cells := 0, slots := 0, locals := 0 }) (va_Pc [.ref h0, .int (nI nN)] (fun U => U.heap.size = sz ∧ va_P (dC, dI) vwCl (WR a k h0 vi vj vF vG) U.heap ∧ va_K (dC, dI) vwCl (tX12 k) U ∧ va_D (fun _ => True) (WR a k h0 vi vj vF vG))) (va_Qi (fun (r : Int32) (u : Unit) => r = (nI plN)) (fun (u : Unit) t => va_P (dC, dI) vwCl (WR a k h0 vi vj vF vG) t.heap ∧ va_D (va_A (WR a k h0 vi vj vF vG) sz) (WR a k h0 vi vj vF vG)) (va_A (WR a k h0 vi vj vF vG) sz)) 0 0 (va_A (WR a k h0 vi vj vF vG) sz) := by
  refine Met.ofW (cc := cX12_placesOf) (maxL := 2) (ret := (some .int)) (by decide) rfl ?_
  intro p e s m args below meth c s₁ B hml hv
  obtain ⟨rfl, hsz, hP, hK, hD0⟩ := hv
  have hx := B.exec
  have hb := B.bytes
  have hr := B.returns
  have hts := atoms_spec (ws := wsRX12_placesOf) B.pre
  have hown : s.vm.findClass RX12 = some m.cls := findClass_of_methodNamed B.named
  have hlocks := B.notSynchronized
  subst hsz
  have hD := hD0.self (sz := s.heap.size)
  generalize hAe : va_A (WR a k h0 vi vj vF vG) s.heap.size = A at hD ⊢
  have hA : ∀ q : Nat, s.heap.size ≤ q → A q := fun q h => by rw [← hAe]; exact Or.inr h
  have hS : va_S A s.heap s.heap [] := va_S.rf
  have hl := lv_entry ([.ref h0, .int (nI nN)]) (n := 2) (Nat.le_of_ble_eq_true rfl)
  rw [lg_entry_eq]
  generalize (lg_sl ([.ref h0, .int (nI nN)]) ++ List.replicate (2 - (lg_sl ([.ref h0, .int (nI nN)])).length) Slot.unset).toArray = ls at hl ⊢
  have hl : lv_has ls 2 [(0, .ref h0), (1, .int (nI nN))] := hl
  refine lv_aload_n hx hb dX12_placesOf_0 rfl (lv_at hl 0 rfl) ?_
  refine va_get (D := (dC, dI)) (ci := 12) (v := .ref (a 29)) (C := RX12) (T := TX12) (N := 163) (fs := fM (vS a vi vj)) hx hb hts iwsRX12_placesOf_in12 hown hK hP 0 rfl rfl 53 (by decide) (hts (.fieldLink RX12 110 "OptimaWorksModel" "kind" "[I") (by decide +kernel)) (fun _ h9 => h9) rfl dX12_placesOf_1 ?_
  refine lv_iload_n hx hb dX12_placesOf_4 rfl (lv_at hl 1 rfl) ?_
  refine va_iald (cA := k 29) (n := 4200) (f := (vF 29)) hx hb hK hP 30 29 (WR_get 29 (by decide)) (TR_get 29 (by decide)) (vp_in_nI (show nN < 4200 by omega) (by omega)) dX12_placesOf_5 ?_
  refine lv_topi (fun y1 hy1 => ?_)
  obtain rfl : ((vF 29) nN) = y1 := (hy1.trans (by rw [nI_clamp (by omega)])).symm
  refine lv_topi (fun y2 hy2 => ?_)
  obtain rfl : (nI kN) = y2 := (hy2.trans (hkN)).symm
  refine lv_iconst (v := 2) hx hb dX12_placesOf_6 (by decide) ?_
  refine lv_icmp_ne (tgt := 24) hx hb dX12_placesOf_7 (by decide) (fun c_7 => ?_) (fun c_7 => ?_)
  · have t_7 : ((kN : Nat) : Int) ≠ 2 := toI_ne c_7 (nI_toInt (by omega)) (by decide)
    refine lv_aload_n hx hb dX12_placesOf_24 rfl (lv_at hl 0 rfl) ?_
    refine va_get (D := (dC, dI)) (ci := 12) (v := .ref (a 24)) (C := RX12) (T := TX12) (N := 163) (fs := fM (vS a vi vj)) hx hb hts iwsRX12_placesOf_in12 hown hK hP 0 rfl rfl 47 (by decide) (hts (.fieldLink RX12 95 "OptimaWorksModel" "varPlaces" "[I") (by decide +kernel)) (fun _ h9 => h9) rfl dX12_placesOf_25 ?_
    refine lv_aload_n hx hb dX12_placesOf_28 rfl (lv_at hl 0 rfl) ?_
    refine va_get (D := (dC, dI)) (ci := 12) (v := .ref (a 30)) (C := RX12) (T := TX12) (N := 163) (fs := fM (vS a vi vj)) hx hb hts iwsRX12_placesOf_in12 hown hK hP 0 rfl rfl 54 (by decide) (hts (.fieldLink RX12 113 "OptimaWorksModel" "partA" "[I") (by decide +kernel)) (fun _ h9 => h9) rfl dX12_placesOf_29 ?_
    refine lv_iload_n hx hb dX12_placesOf_32 rfl (lv_at hl 1 rfl) ?_
    refine va_iald (cA := k 30) (n := 4200) (f := (vF 30)) hx hb hK hP 31 30 (WR_get 30 (by decide)) (TR_get 30 (by decide)) (vp_in_nI (show nN < 4200 by omega) (by omega)) dX12_placesOf_33 ?_
    refine lv_topi (fun y3 hy3 => ?_)
    obtain rfl : ((vF 30) nN) = y3 := (hy3.trans (by rw [nI_clamp (by omega)])).symm
    refine lv_topi (fun y4 hy4 => ?_)
    obtain rfl : (nI aN) = y4 := (hy4.trans (haN)).symm
    refine va_iald (cA := k 24) (n := 44) (f := (vF 24)) hx hb hK hP 25 24 (WR_get 24 (by decide)) (TR_get 24 (by decide)) (vp_in_nI (show aN < 44 by omega) (by omega)) dX12_placesOf_34 ?_
    refine lv_topi (fun y5 hy5 => ?_)
    obtain rfl : ((vF 24) aN) = y5 := (hy5.trans (by rw [nI_clamp (by omega)])).symm
    refine lv_topi (fun y6 hy6 => ?_)
    obtain rfl : (nI plN) = y6 := (hy6.trans (hP3 (by omega))).symm
    refine W.widen (k := 0) (n := 0) (by decide +kernel) (by decide +kernel) ?_
    exact W.iret (v := (nI plN)) hx hb hr (fun t9_ ht hW => ⟨⟨(nI plN), (), rfl, by (first | rfl | assumption | trivial | omega | (simp [c_7]; done) | (simp; omega)), by rw [ht]; exact hP, hD⟩, hS.F ht⟩) hS.2.2 dX12_placesOf_35
  · have t_7 : ((kN : Nat) : Int) = 2 := toI_nne c_7 (nI_toInt (by omega)) (by decide)
    refine lv_aload_n hx hb dX12_placesOf_10 rfl (lv_at hl 0 rfl) ?_
    refine va_get (D := (dC, dI)) (ci := 12) (v := .ref (a 18)) (C := RX12) (T := TX12) (N := 163) (fs := fM (vS a vi vj)) hx hb hts iwsRX12_placesOf_in12 hown hK hP 0 rfl rfl 41 (by decide) (hts (.fieldLink RX12 77 "OptimaWorksModel" "paramPlaces" "[I") (by decide +kernel)) (fun _ h9 => h9) rfl dX12_placesOf_11 ?_
    refine lv_aload_n hx hb dX12_placesOf_14 rfl (lv_at hl 0 rfl) ?_
    refine va_get (D := (dC, dI)) (ci := 12) (v := .ref (a 30)) (C := RX12) (T := TX12) (N := 163) (fs := fM (vS a vi vj)) hx hb hts iwsRX12_placesOf_in12 hown hK hP 0 rfl rfl 54 (by decide) (hts (.fieldLink RX12 113 "OptimaWorksModel" "partA" "[I") (by decide +kernel)) (fun _ h9 => h9) rfl dX12_placesOf_15 ?_
    refine lv_iload_n hx hb dX12_placesOf_18 rfl (lv_at hl 1 rfl) ?_
    refine va_iald (cA := k 30) (n := 4200) (f := (vF 30)) hx hb hK hP 31 30 (WR_get 30 (by decide)) (TR_get 30 (by decide)) (vp_in_nI (show nN < 4200 by omega) (by omega)) dX12_placesOf_19 ?_
    refine lv_topi (fun y7 hy7 => ?_)
    obtain rfl : ((vF 30) nN) = y7 := (hy7.trans (by rw [nI_clamp (by omega)])).symm
    refine lv_topi (fun y8 hy8 => ?_)
    obtain rfl : (nI aN) = y8 := (hy8.trans (haN)).symm
    refine va_iald (cA := k 18) (n := 44) (f := (vF 18)) hx hb hK hP 19 18 (WR_get 18 (by decide)) (TR_get 18 (by decide)) (vp_in_nI (show aN < 44 by omega) (by omega)) dX12_placesOf_20 ?_
    refine lv_topi (fun y9 hy9 => ?_)
    obtain rfl : ((vF 18) aN) = y9 := (hy9.trans (by rw [nI_clamp (by omega)])).symm
    refine lv_topi (fun y10 hy10 => ?_)
    obtain rfl : (nI plN) = y10 := (hy10.trans (hP2 (by omega))).symm
    refine lv_goto (tgt := 35) hx hb dX12_placesOf_21 (by decide) ?_
    refine W.widen (k := 0) (n := 0) (by decide +kernel) (by decide +kernel) ?_
    exact W.iret (v := (nI plN)) hx hb hr (fun t9_ ht hW => ⟨⟨(nI plN), (), rfl, by (first | rfl | assumption | trivial | omega | (simp [c_7]; done) | (simp; omega)), by rw [ht]; exact hP, hD⟩, hS.F ht⟩) hS.2.2 dX12_placesOf_35
theorem dX12_workName_0 : decode cX12_workName 0 = .ok (.aload_n 0, 1) := dk_42 (by decide +kernel)
theorem dX12_workName_1 : decode cX12_workName 1 = .ok (.getfield 110, 3) := dk_180 (by decide +kernel)
theorem dX12_workName_4 : decode cX12_workName 4 = .ok (.iload_n 2, 1) := dk_28 (by decide +kernel)
theorem dX12_workName_5 : decode cX12_workName 5 = .ok (.iaload, 1) := dk_46 (by decide +kernel)
theorem dX12_workName_6 : decode cX12_workName 6 = .ok (.iconst 2, 1) := dk_5 (by decide +kernel)
theorem dX12_workName_7 : decode cX12_workName 7 = .ok (.if_icmp .ne 7, 3) := dk_160 (by decide +kernel)
theorem dX12_workName_10 : decode cX12_workName 10 = .ok (.iconst 1, 1) := dk_4 (by decide +kernel)
theorem dX12_workName_11 : decode cX12_workName 11 = .ok (.goto 4, 3) := dk_167 (by decide +kernel)
theorem dX12_workName_14 : decode cX12_workName 14 = .ok (.iconst 0, 1) := dk_3 (by decide +kernel)
theorem dX12_workName_15 : decode cX12_workName 15 = .ok (.istore_n 3, 1) := dk_62 (by decide +kernel)
theorem dX12_workName_16 : decode cX12_workName 16 = .ok (.aload_n 0, 1) := dk_42 (by decide +kernel)
theorem dX12_workName_17 : decode cX12_workName 17 = .ok (.getfield 113, 3) := dk_180 (by decide +kernel)
theorem dX12_workName_20 : decode cX12_workName 20 = .ok (.iload_n 2, 1) := dk_28 (by decide +kernel)
theorem dX12_workName_21 : decode cX12_workName 21 = .ok (.iaload, 1) := dk_46 (by decide +kernel)
theorem dX12_workName_22 : decode cX12_workName 22 = .ok (.istore 4, 2) := dk_54 (by decide +kernel)
theorem dX12_workName_24 : decode cX12_workName 24 = .ok (.aload_n 0, 1) := dk_42 (by decide +kernel)
theorem dX12_workName_25 : decode cX12_workName 25 = .ok (.iload_n 2, 1) := dk_28 (by decide +kernel)
theorem dX12_workName_26 : decode cX12_workName 26 = .ok (.invokevirtual 614, 3) := dk_182 (by decide +kernel)
theorem dX12_workName_29 : decode cX12_workName 29 = .ok (.istore 5, 2) := dk_54 (by decide +kernel)
theorem dX12_workName_31 : decode cX12_workName 31 = .ok (.iload_n 3, 1) := dk_29 (by decide +kernel)
theorem dX12_workName_32 : decode cX12_workName 32 = .ok (.ifCond .eq 13, 3) := dk_153 (by decide +kernel)
theorem dX12_workName_35 : decode cX12_workName 35 = .ok (.aload_n 0, 1) := dk_42 (by decide +kernel)
theorem dX12_workName_36 : decode cX12_workName 36 = .ok (.getfield 80, 3) := dk_180 (by decide +kernel)
theorem dX12_workName_39 : decode cX12_workName 39 = .ok (.iload 4, 2) := dk_21 (by decide +kernel)
theorem dX12_workName_41 : decode cX12_workName 41 = .ok (.iaload, 1) := dk_46 (by decide +kernel)
theorem dX12_workName_42 : decode cX12_workName 42 = .ok (.goto 10, 3) := dk_167 (by decide +kernel)
theorem dX12_workName_45 : decode cX12_workName 45 = .ok (.aload_n 0, 1) := dk_42 (by decide +kernel)
theorem dX12_workName_46 : decode cX12_workName 46 = .ok (.getfield 98, 3) := dk_180 (by decide +kernel)
theorem dX12_workName_49 : decode cX12_workName 49 = .ok (.iload 4, 2) := dk_21 (by decide +kernel)
theorem dX12_workName_51 : decode cX12_workName 51 = .ok (.iaload, 1) := dk_46 (by decide +kernel)
theorem dX12_workName_52 : decode cX12_workName 52 = .ok (.istore 6, 2) := dk_54 (by decide +kernel)
theorem dX12_workName_54 : decode cX12_workName 54 = .ok (.iload_n 3, 1) := dk_29 (by decide +kernel)
theorem dX12_workName_55 : decode cX12_workName 55 = .ok (.ifCond .eq 13, 3) := dk_153 (by decide +kernel)
theorem dX12_workName_58 : decode cX12_workName 58 = .ok (.aload_n 0, 1) := dk_42 (by decide +kernel)
theorem dX12_workName_59 : decode cX12_workName 59 = .ok (.getfield 83, 3) := dk_180 (by decide +kernel)
theorem dX12_workName_62 : decode cX12_workName 62 = .ok (.iload 4, 2) := dk_21 (by decide +kernel)
theorem dX12_workName_64 : decode cX12_workName 64 = .ok (.iaload, 1) := dk_46 (by decide +kernel)
theorem dX12_workName_65 : decode cX12_workName 65 = .ok (.goto 10, 3) := dk_167 (by decide +kernel)
theorem dX12_workName_68 : decode cX12_workName 68 = .ok (.aload_n 0, 1) := dk_42 (by decide +kernel)
theorem dX12_workName_69 : decode cX12_workName 69 = .ok (.getfield 101, 3) := dk_180 (by decide +kernel)
theorem dX12_workName_72 : decode cX12_workName 72 = .ok (.iload 4, 2) := dk_21 (by decide +kernel)
theorem dX12_workName_74 : decode cX12_workName 74 = .ok (.iaload, 1) := dk_46 (by decide +kernel)
theorem dX12_workName_75 : decode cX12_workName 75 = .ok (.istore 7, 2) := dk_54 (by decide +kernel)
theorem dX12_workName_77 : decode cX12_workName 77 = .ok (.aload_n 0, 1) := dk_42 (by decide +kernel)
theorem dX12_workName_78 : decode cX12_workName 78 = .ok (.getfield 182, 3) := dk_180 (by decide +kernel)
theorem dX12_workName_81 : decode cX12_workName 81 = .ok (.iload_n 1, 1) := dk_27 (by decide +kernel)
theorem dX12_workName_82 : decode cX12_workName 82 = .ok (.dup2, 1) := dk_92 (by decide +kernel)
theorem dX12_workName_83 : decode cX12_workName 83 = .ok (.iaload, 1) := dk_46 (by decide +kernel)
theorem dX12_workName_84 : decode cX12_workName 84 = .ok (.iconst 1, 1) := dk_4 (by decide +kernel)
theorem dX12_workName_85 : decode cX12_workName 85 = .ok (.iadd, 1) := dk_96 (by decide +kernel)
theorem dX12_workName_86 : decode cX12_workName 86 = .ok (.iastore, 1) := dk_79 (by decide +kernel)
theorem dX12_workName_87 : decode cX12_workName 87 = .ok (.aload_n 0, 1) := dk_42 (by decide +kernel)
theorem dX12_workName_88 : decode cX12_workName 88 = .ok (.getfield 182, 3) := dk_180 (by decide +kernel)
theorem dX12_workName_91 : decode cX12_workName 91 = .ok (.iload_n 1, 1) := dk_27 (by decide +kernel)
theorem dX12_workName_92 : decode cX12_workName 92 = .ok (.iaload, 1) := dk_46 (by decide +kernel)
theorem dX12_workName_93 : decode cX12_workName 93 = .ok (.iconst 1, 1) := dk_4 (by decide +kernel)
theorem dX12_workName_94 : decode cX12_workName 94 = .ok (.if_icmp .ne 30, 3) := dk_160 (by decide +kernel)
theorem dX12_workName_97 : decode cX12_workName 97 = .ok (.aload_n 0, 1) := dk_42 (by decide +kernel)
theorem dX12_workName_98 : decode cX12_workName 98 = .ok (.invokevirtual 656, 3) := dk_182 (by decide +kernel)
theorem dX12_workName_101 : decode cX12_workName 101 = .ok (.aload_n 0, 1) := dk_42 (by decide +kernel)
theorem dX12_workName_102 : decode cX12_workName 102 = .ok (.getfield 185, 3) := dk_180 (by decide +kernel)
theorem dX12_workName_105 : decode cX12_workName 105 = .ok (.iload_n 1, 1) := dk_27 (by decide +kernel)
theorem dX12_workName_106 : decode cX12_workName 106 = .ok (.iconst 0, 1) := dk_3 (by decide +kernel)
theorem dX12_workName_107 : decode cX12_workName 107 = .ok (.iastore, 1) := dk_79 (by decide +kernel)
theorem dX12_workName_108 : decode cX12_workName 108 = .ok (.iload 5, 2) := dk_21 (by decide +kernel)
theorem dX12_workName_110 : decode cX12_workName 110 = .ok (.ifCond .le 14, 3) := dk_158 (by decide +kernel)
theorem dX12_workName_113 : decode cX12_workName 113 = .ok (.aload_n 0, 1) := dk_42 (by decide +kernel)
theorem dX12_workName_114 : decode cX12_workName 114 = .ok (.aload_n 0, 1) := dk_42 (by decide +kernel)
theorem dX12_workName_115 : decode cX12_workName 115 = .ok (.getfield 116, 3) := dk_180 (by decide +kernel)
theorem dX12_workName_118 : decode cX12_workName 118 = .ok (.iload_n 2, 1) := dk_28 (by decide +kernel)
theorem dX12_workName_119 : decode cX12_workName 119 = .ok (.iaload, 1) := dk_46 (by decide +kernel)
theorem dX12_workName_120 : decode cX12_workName 120 = .ok (.invokevirtual 650, 3) := dk_182 (by decide +kernel)
theorem dX12_workName_123 : decode cX12_workName 123 = .ok (.return_, 1) := dk_177 (by decide +kernel)
theorem dX12_workName_124 : decode cX12_workName 124 = .ok (.aload_n 0, 1) := dk_42 (by decide +kernel)
theorem dX12_workName_125 : decode cX12_workName 125 = .ok (.getfield 182, 3) := dk_180 (by decide +kernel)
theorem dX12_workName_128 : decode cX12_workName 128 = .ok (.iload_n 1, 1) := dk_27 (by decide +kernel)
theorem dX12_workName_129 : decode cX12_workName 129 = .ok (.iaload, 1) := dk_46 (by decide +kernel)
theorem dX12_workName_130 : decode cX12_workName 130 = .ok (.iconst 2, 1) := dk_5 (by decide +kernel)
theorem dX12_workName_131 : decode cX12_workName 131 = .ok (.if_icmp .ne 38, 3) := dk_160 (by decide +kernel)
theorem dX12_workName_134 : decode cX12_workName 134 = .ok (.aload_n 0, 1) := dk_42 (by decide +kernel)
theorem dX12_workName_135 : decode cX12_workName 135 = .ok (.getfield 185, 3) := dk_180 (by decide +kernel)
theorem dX12_workName_138 : decode cX12_workName 138 = .ok (.iload_n 1, 1) := dk_27 (by decide +kernel)
theorem dX12_workName_139 : decode cX12_workName 139 = .ok (.aload_n 0, 1) := dk_42 (by decide +kernel)
theorem dX12_workName_140 : decode cX12_workName 140 = .ok (.iload 6, 2) := dk_21 (by decide +kernel)
theorem dX12_workName_142 : decode cX12_workName 142 = .ok (.aload_n 0, 1) := dk_42 (by decide +kernel)
theorem dX12_workName_143 : decode cX12_workName 143 = .ok (.getfield 125, 3) := dk_180 (by decide +kernel)
theorem dX12_workName_146 : decode cX12_workName 146 = .ok (.iload_n 2, 1) := dk_28 (by decide +kernel)
theorem dX12_workName_147 : decode cX12_workName 147 = .ok (.iaload, 1) := dk_46 (by decide +kernel)
theorem dX12_workName_148 : decode cX12_workName 148 = .ok (.invokevirtual 690, 3) := dk_182 (by decide +kernel)
theorem dX12_workName_151 : decode cX12_workName 151 = .ok (.iastore, 1) := dk_79 (by decide +kernel)
theorem dX12_workName_152 : decode cX12_workName 152 = .ok (.iload 5, 2) := dk_21 (by decide +kernel)
theorem dX12_workName_154 : decode cX12_workName 154 = .ok (.iconst 1, 1) := dk_4 (by decide +kernel)
theorem dX12_workName_155 : decode cX12_workName 155 = .ok (.if_icmp .le 14, 3) := dk_164 (by decide +kernel)
theorem dX12_workName_158 : decode cX12_workName 158 = .ok (.aload_n 0, 1) := dk_42 (by decide +kernel)
theorem dX12_workName_159 : decode cX12_workName 159 = .ok (.aload_n 0, 1) := dk_42 (by decide +kernel)
theorem dX12_workName_160 : decode cX12_workName 160 = .ok (.getfield 119, 3) := dk_180 (by decide +kernel)
theorem dX12_workName_163 : decode cX12_workName 163 = .ok (.iload_n 2, 1) := dk_28 (by decide +kernel)
theorem dX12_workName_164 : decode cX12_workName 164 = .ok (.iaload, 1) := dk_46 (by decide +kernel)
theorem dX12_workName_165 : decode cX12_workName 165 = .ok (.invokevirtual 650, 3) := dk_182 (by decide +kernel)
theorem dX12_workName_168 : decode cX12_workName 168 = .ok (.return_, 1) := dk_177 (by decide +kernel)
theorem dX12_workName_169 : decode cX12_workName 169 = .ok (.aload_n 0, 1) := dk_42 (by decide +kernel)
theorem dX12_workName_170 : decode cX12_workName 170 = .ok (.getfield 182, 3) := dk_180 (by decide +kernel)
theorem dX12_workName_173 : decode cX12_workName 173 = .ok (.iload_n 1, 1) := dk_27 (by decide +kernel)
theorem dX12_workName_174 : decode cX12_workName 174 = .ok (.iaload, 1) := dk_46 (by decide +kernel)
theorem dX12_workName_175 : decode cX12_workName 175 = .ok (.iconst 3, 1) := dk_6 (by decide +kernel)
theorem dX12_workName_176 : decode cX12_workName 176 = .ok (.if_icmp .ne 36, 3) := dk_160 (by decide +kernel)
theorem dX12_workName_179 : decode cX12_workName 179 = .ok (.aload_n 0, 1) := dk_42 (by decide +kernel)
theorem dX12_workName_180 : decode cX12_workName 180 = .ok (.getfield 185, 3) := dk_180 (by decide +kernel)
theorem dX12_workName_183 : decode cX12_workName 183 = .ok (.iload_n 1, 1) := dk_27 (by decide +kernel)
theorem dX12_workName_184 : decode cX12_workName 184 = .ok (.aload_n 0, 1) := dk_42 (by decide +kernel)
theorem dX12_workName_185 : decode cX12_workName 185 = .ok (.getfield 185, 3) := dk_180 (by decide +kernel)
theorem dX12_workName_188 : decode cX12_workName 188 = .ok (.iload_n 1, 1) := dk_27 (by decide +kernel)
theorem dX12_workName_189 : decode cX12_workName 189 = .ok (.iaload, 1) := dk_46 (by decide +kernel)
theorem dX12_workName_190 : decode cX12_workName 190 = .ok (.aload_n 0, 1) := dk_42 (by decide +kernel)
theorem dX12_workName_191 : decode cX12_workName 191 = .ok (.getfield 74, 3) := dk_180 (by decide +kernel)
theorem dX12_workName_194 : decode cX12_workName 194 = .ok (.iload 7, 2) := dk_21 (by decide +kernel)
theorem dX12_workName_196 : decode cX12_workName 196 = .ok (.iaload, 1) := dk_46 (by decide +kernel)
theorem dX12_workName_197 : decode cX12_workName 197 = .ok (.imul, 1) := dk_104 (by decide +kernel)
theorem dX12_workName_198 : decode cX12_workName 198 = .ok (.aload_n 0, 1) := dk_42 (by decide +kernel)
theorem dX12_workName_199 : decode cX12_workName 199 = .ok (.iload 7, 2) := dk_21 (by decide +kernel)
theorem dX12_workName_201 : decode cX12_workName 201 = .ok (.aload_n 0, 1) := dk_42 (by decide +kernel)
theorem dX12_workName_202 : decode cX12_workName 202 = .ok (.getfield 128, 3) := dk_180 (by decide +kernel)
theorem dX12_workName_205 : decode cX12_workName 205 = .ok (.iload_n 2, 1) := dk_28 (by decide +kernel)
theorem dX12_workName_206 : decode cX12_workName 206 = .ok (.iaload, 1) := dk_46 (by decide +kernel)
theorem dX12_workName_207 : decode cX12_workName 207 = .ok (.invokevirtual 690, 3) := dk_182 (by decide +kernel)
theorem dX12_workName_210 : decode cX12_workName 210 = .ok (.iadd, 1) := dk_96 (by decide +kernel)
theorem dX12_workName_211 : decode cX12_workName 211 = .ok (.iastore, 1) := dk_79 (by decide +kernel)
theorem dX12_workName_212 : decode cX12_workName 212 = .ok (.aload_n 0, 1) := dk_42 (by decide +kernel)
theorem dX12_workName_213 : decode cX12_workName 213 = .ok (.getfield 515, 3) := dk_180 (by decide +kernel)
theorem dX12_workName_216 : decode cX12_workName 216 = .ok (.ifCond .le 4, 3) := dk_158 (by decide +kernel)
theorem dX12_workName_219 : decode cX12_workName 219 = .ok (.return_, 1) := dk_177 (by decide +kernel)
theorem dX12_workName_220 : decode cX12_workName 220 = .ok (.aload_n 0, 1) := dk_42 (by decide +kernel)
theorem dX12_workName_221 : decode cX12_workName 221 = .ok (.aload_n 0, 1) := dk_42 (by decide +kernel)
theorem dX12_workName_222 : decode cX12_workName 222 = .ok (.getfield 659, 3) := dk_180 (by decide +kernel)
theorem dX12_workName_225 : decode cX12_workName 225 = .ok (.invokevirtual 662, 3) := dk_182 (by decide +kernel)
theorem dX12_workName_228 : decode cX12_workName 228 = .ok (.iload_n 3, 1) := dk_29 (by decide +kernel)
theorem dX12_workName_229 : decode cX12_workName 229 = .ok (.ifCond .eq 68, 3) := dk_153 (by decide +kernel)
theorem dX12_workName_232 : decode cX12_workName 232 = .ok (.aload_n 0, 1) := dk_42 (by decide +kernel)
theorem dX12_workName_233 : decode cX12_workName 233 = .ok (.getfield 170, 3) := dk_180 (by decide +kernel)
theorem dX12_workName_236 : decode cX12_workName 236 = .ok (.bipush 9, 2) := dk_16 (by decide +kernel)
theorem dX12_workName_238 : decode cX12_workName 238 = .ok (.aload_n 0, 1) := dk_42 (by decide +kernel)
theorem dX12_workName_239 : decode cX12_workName 239 = .ok (.getfield 659, 3) := dk_180 (by decide +kernel)
theorem dX12_workName_242 : decode cX12_workName 242 = .ok (.imul, 1) := dk_104 (by decide +kernel)
theorem dX12_workName_243 : decode cX12_workName 243 = .ok (.aload_n 0, 1) := dk_42 (by decide +kernel)
theorem dX12_workName_244 : decode cX12_workName 244 = .ok (.getfield 89, 3) := dk_180 (by decide +kernel)
theorem dX12_workName_247 : decode cX12_workName 247 = .ok (.aload_n 0, 1) := dk_42 (by decide +kernel)
theorem dX12_workName_248 : decode cX12_workName 248 = .ok (.getfield 86, 3) := dk_180 (by decide +kernel)
theorem dX12_workName_251 : decode cX12_workName 251 = .ok (.iload 4, 2) := dk_21 (by decide +kernel)
theorem dX12_workName_253 : decode cX12_workName 253 = .ok (.iaload, 1) := dk_46 (by decide +kernel)
theorem dX12_workName_254 : decode cX12_workName 254 = .ok (.aload_n 0, 1) := dk_42 (by decide +kernel)
theorem dX12_workName_255 : decode cX12_workName 255 = .ok (.getfield 185, 3) := dk_180 (by decide +kernel)
theorem dX12_workName_258 : decode cX12_workName 258 = .ok (.iload_n 1, 1) := dk_27 (by decide +kernel)
theorem dX12_workName_259 : decode cX12_workName 259 = .ok (.iaload, 1) := dk_46 (by decide +kernel)
theorem dX12_workName_260 : decode cX12_workName 260 = .ok (.iadd, 1) := dk_96 (by decide +kernel)
theorem dX12_workName_261 : decode cX12_workName 261 = .ok (.iaload, 1) := dk_46 (by decide +kernel)
theorem dX12_workName_262 : decode cX12_workName 262 = .ok (.iastore, 1) := dk_79 (by decide +kernel)
theorem dX12_workName_263 : decode cX12_workName 263 = .ok (.aload_n 0, 1) := dk_42 (by decide +kernel)
theorem dX12_workName_264 : decode cX12_workName 264 = .ok (.getfield 173, 3) := dk_180 (by decide +kernel)
theorem dX12_workName_267 : decode cX12_workName 267 = .ok (.bipush 9, 2) := dk_16 (by decide +kernel)
theorem dX12_workName_269 : decode cX12_workName 269 = .ok (.aload_n 0, 1) := dk_42 (by decide +kernel)
theorem dX12_workName_270 : decode cX12_workName 270 = .ok (.getfield 659, 3) := dk_180 (by decide +kernel)
theorem dX12_workName_273 : decode cX12_workName 273 = .ok (.imul, 1) := dk_104 (by decide +kernel)
theorem dX12_workName_274 : decode cX12_workName 274 = .ok (.aload_n 0, 1) := dk_42 (by decide +kernel)
theorem dX12_workName_275 : decode cX12_workName 275 = .ok (.getfield 92, 3) := dk_180 (by decide +kernel)
theorem dX12_workName_278 : decode cX12_workName 278 = .ok (.aload_n 0, 1) := dk_42 (by decide +kernel)
theorem dX12_workName_279 : decode cX12_workName 279 = .ok (.getfield 86, 3) := dk_180 (by decide +kernel)
theorem dX12_workName_282 : decode cX12_workName 282 = .ok (.iload 4, 2) := dk_21 (by decide +kernel)
theorem dX12_workName_284 : decode cX12_workName 284 = .ok (.iaload, 1) := dk_46 (by decide +kernel)
theorem dX12_workName_285 : decode cX12_workName 285 = .ok (.aload_n 0, 1) := dk_42 (by decide +kernel)
theorem dX12_workName_286 : decode cX12_workName 286 = .ok (.getfield 185, 3) := dk_180 (by decide +kernel)
theorem dX12_workName_289 : decode cX12_workName 289 = .ok (.iload_n 1, 1) := dk_27 (by decide +kernel)
theorem dX12_workName_290 : decode cX12_workName 290 = .ok (.iaload, 1) := dk_46 (by decide +kernel)
theorem dX12_workName_291 : decode cX12_workName 291 = .ok (.iadd, 1) := dk_96 (by decide +kernel)
theorem dX12_workName_292 : decode cX12_workName 292 = .ok (.iaload, 1) := dk_46 (by decide +kernel)
theorem dX12_workName_293 : decode cX12_workName 293 = .ok (.iastore, 1) := dk_79 (by decide +kernel)
theorem dX12_workName_294 : decode cX12_workName 294 = .ok (.goto 33, 3) := dk_167 (by decide +kernel)
theorem dX12_workName_297 : decode cX12_workName 297 = .ok (.aload_n 0, 1) := dk_42 (by decide +kernel)
theorem dX12_workName_298 : decode cX12_workName 298 = .ok (.getfield 170, 3) := dk_180 (by decide +kernel)
theorem dX12_workName_301 : decode cX12_workName 301 = .ok (.bipush 9, 2) := dk_16 (by decide +kernel)
theorem dX12_workName_303 : decode cX12_workName 303 = .ok (.aload_n 0, 1) := dk_42 (by decide +kernel)
theorem dX12_workName_304 : decode cX12_workName 304 = .ok (.getfield 659, 3) := dk_180 (by decide +kernel)
theorem dX12_workName_307 : decode cX12_workName 307 = .ok (.imul, 1) := dk_104 (by decide +kernel)
theorem dX12_workName_308 : decode cX12_workName 308 = .ok (.iconst 1, 1) := dk_4 (by decide +kernel)
theorem dX12_workName_309 : decode cX12_workName 309 = .ok (.iadd, 1) := dk_96 (by decide +kernel)
theorem dX12_workName_310 : decode cX12_workName 310 = .ok (.aload_n 0, 1) := dk_42 (by decide +kernel)
theorem dX12_workName_311 : decode cX12_workName 311 = .ok (.getfield 104, 3) := dk_180 (by decide +kernel)
theorem dX12_workName_314 : decode cX12_workName 314 = .ok (.iload 4, 2) := dk_21 (by decide +kernel)
theorem dX12_workName_316 : decode cX12_workName 316 = .ok (.iaload, 1) := dk_46 (by decide +kernel)
theorem dX12_workName_317 : decode cX12_workName 317 = .ok (.iadd, 1) := dk_96 (by decide +kernel)
theorem dX12_workName_318 : decode cX12_workName 318 = .ok (.aload_n 0, 1) := dk_42 (by decide +kernel)
theorem dX12_workName_319 : decode cX12_workName 319 = .ok (.getfield 185, 3) := dk_180 (by decide +kernel)
theorem dX12_workName_322 : decode cX12_workName 322 = .ok (.iload_n 1, 1) := dk_27 (by decide +kernel)
theorem dX12_workName_323 : decode cX12_workName 323 = .ok (.iaload, 1) := dk_46 (by decide +kernel)
theorem dX12_workName_324 : decode cX12_workName 324 = .ok (.iadd, 1) := dk_96 (by decide +kernel)
theorem dX12_workName_325 : decode cX12_workName 325 = .ok (.iconst 1, 1) := dk_4 (by decide +kernel)
theorem dX12_workName_326 : decode cX12_workName 326 = .ok (.iastore, 1) := dk_79 (by decide +kernel)
theorem dX12_workName_327 : decode cX12_workName 327 = .ok (.aload_n 0, 1) := dk_42 (by decide +kernel)
theorem dX12_workName_328 : decode cX12_workName 328 = .ok (.dup, 1) := dk_89 (by decide +kernel)
theorem dX12_workName_329 : decode cX12_workName 329 = .ok (.getfield 659, 3) := dk_180 (by decide +kernel)
theorem dX12_workName_332 : decode cX12_workName 332 = .ok (.iconst 1, 1) := dk_4 (by decide +kernel)
theorem dX12_workName_333 : decode cX12_workName 333 = .ok (.iadd, 1) := dk_96 (by decide +kernel)
theorem dX12_workName_334 : decode cX12_workName 334 = .ok (.putfield 659, 3) := dk_181 (by decide +kernel)
theorem dX12_workName_337 : decode cX12_workName 337 = .ok (.aload_n 0, 1) := dk_42 (by decide +kernel)
theorem dX12_workName_338 : decode cX12_workName 338 = .ok (.dup, 1) := dk_89 (by decide +kernel)
theorem dX12_workName_339 : decode cX12_workName 339 = .ok (.getfield 647, 3) := dk_180 (by decide +kernel)
theorem dX12_workName_342 : decode cX12_workName 342 = .ok (.iconst 1, 1) := dk_4 (by decide +kernel)
theorem dX12_workName_343 : decode cX12_workName 343 = .ok (.isub, 1) := dk_100 (by decide +kernel)
theorem dX12_workName_344 : decode cX12_workName 344 = .ok (.putfield 647, 3) := dk_181 (by decide +kernel)
theorem dX12_workName_347 : decode cX12_workName 347 = .ok (.return_, 1) := dk_177 (by decide +kernel)
def wsRX12_workName : List Cond := .code yX12_workName cX12_workName 8 none :: ([.fieldLink RX12 110 "OptimaWorksModel" "kind" "[I", .fieldLink RX12 113 "OptimaWorksModel" "partA" "[I", .fieldLink RX12 98 "OptimaWorksModel" "varOne" "[I", .fieldLink RX12 80 "OptimaWorksModel" "paramOne" "[I", .fieldLink RX12 101 "OptimaWorksModel" "varTwo" "[I", .fieldLink RX12 83 "OptimaWorksModel" "paramTwo" "[I", .fieldLink RX12 182 "OptimaWorksModel" "stage" "[I", .fieldLink RX12 185 "OptimaWorksModel" "loopA" "[I", .fieldLink RX12 74 "OptimaWorksModel" "setMany" "[I", .fieldLink RX12 128 "OptimaWorksModel" "firstB" "[I", .fieldLink RX12 125 "OptimaWorksModel" "firstA" "[I", .fieldLink RX12 119 "OptimaWorksModel" "partC" "[I", .fieldLink RX12 116 "OptimaWorksModel" "partB" "[I", .fieldLink RX12 515 "OptimaWorksModel" "stop" "I", .fieldLink RX12 659 "OptimaWorksModel" "piled" "I", .fieldLink RX12 170 "OptimaWorksModel" "top" "[I", .fieldLink RX12 104 "OptimaWorksModel" "varAt" "[I", .fieldLink RX12 647 "OptimaWorksModel" "framed" "I", .fieldLink RX12 89 "OptimaWorksModel" "paramTop" "[I", .fieldLink RX12 86 "OptimaWorksModel" "paramAt" "[I", .fieldLink RX12 173 "OptimaWorksModel" "under" "[I", .fieldLink RX12 92 "OptimaWorksModel" "paramUnder" "[I"] ++ wsX120 ++ (wsV RX12 614 RX12 yX12_placesOf wsRX12_placesOf) ++ (wsV RX12 690 RX12 yX12_member wsRX12_member) ++ (wsV RX12 650 RX12 yX12_call wsRX12_call) ++ (wsV RX12 656 RX12 yX12_stepOne wsRX12_stepOne) ++ (wsV RX12 662 RX12 yX12_nought wsRX12_nought))
theorem iwsRX12_workName_in12 : ∀ w ∈ wsX120, w ∈ wsRX12_workName := fun _ h => List.mem_cons_of_mem _ (List.mem_append_left _ (List.mem_append_left _ (List.mem_append_left _ (List.mem_append_left _ (List.mem_append_left _ (List.mem_append_right _ h))))))
theorem gwsRX12_workName_0 : GoodIn wsRX12_workName (wsV RX12 614 RX12 yX12_placesOf wsRX12_placesOf) := goodIn_sub (fun _ h => List.mem_cons_of_mem _ (List.mem_append_left _ (List.mem_append_left _ (List.mem_append_left _ (List.mem_append_left _ (List.mem_append_right _ h)))))) (gdV (by decide +kernel) gdwsRX12_placesOf)
theorem gwsRX12_workName_1 : GoodIn wsRX12_workName (wsV RX12 690 RX12 yX12_member wsRX12_member) := goodIn_sub (fun _ h => List.mem_cons_of_mem _ (List.mem_append_left _ (List.mem_append_left _ (List.mem_append_left _ (List.mem_append_right _ h))))) (gdV (by decide +kernel) gdwsRX12_member)
theorem gwsRX12_workName_2 : GoodIn wsRX12_workName (wsV RX12 650 RX12 yX12_call wsRX12_call) := goodIn_sub (fun _ h => List.mem_cons_of_mem _ (List.mem_append_left _ (List.mem_append_left _ (List.mem_append_right _ h)))) (gdV (by decide +kernel) gdwsRX12_call)
theorem gwsRX12_workName_3 : GoodIn wsRX12_workName (wsV RX12 656 RX12 yX12_stepOne wsRX12_stepOne) := goodIn_sub (fun _ h => List.mem_cons_of_mem _ (List.mem_append_left _ (List.mem_append_right _ h))) (gdV (by decide +kernel) gdwsRX12_stepOne)
theorem gwsRX12_workName_4 : GoodIn wsRX12_workName (wsV RX12 662 RX12 yX12_nought wsRX12_nought) := goodIn_sub (fun _ h => List.mem_cons_of_mem _ (List.mem_append_right _ h)) (gdV (by decide +kernel) gdwsRX12_nought)
theorem gdwsRX12_workName : wsRX12_workName.all goodWord = true := gdC rfl (gdA (gdA (gdA (gdA (gdA (gdA (by decide +kernel : ([.fieldLink RX12 110 "OptimaWorksModel" "kind" "[I", .fieldLink RX12 113 "OptimaWorksModel" "partA" "[I", .fieldLink RX12 98 "OptimaWorksModel" "varOne" "[I", .fieldLink RX12 80 "OptimaWorksModel" "paramOne" "[I", .fieldLink RX12 101 "OptimaWorksModel" "varTwo" "[I", .fieldLink RX12 83 "OptimaWorksModel" "paramTwo" "[I", .fieldLink RX12 182 "OptimaWorksModel" "stage" "[I", .fieldLink RX12 185 "OptimaWorksModel" "loopA" "[I", .fieldLink RX12 74 "OptimaWorksModel" "setMany" "[I", .fieldLink RX12 128 "OptimaWorksModel" "firstB" "[I", .fieldLink RX12 125 "OptimaWorksModel" "firstA" "[I", .fieldLink RX12 119 "OptimaWorksModel" "partC" "[I", .fieldLink RX12 116 "OptimaWorksModel" "partB" "[I", .fieldLink RX12 515 "OptimaWorksModel" "stop" "I", .fieldLink RX12 659 "OptimaWorksModel" "piled" "I", .fieldLink RX12 170 "OptimaWorksModel" "top" "[I", .fieldLink RX12 104 "OptimaWorksModel" "varAt" "[I", .fieldLink RX12 647 "OptimaWorksModel" "framed" "I", .fieldLink RX12 89 "OptimaWorksModel" "paramTop" "[I", .fieldLink RX12 86 "OptimaWorksModel" "paramAt" "[I", .fieldLink RX12 173 "OptimaWorksModel" "under" "[I", .fieldLink RX12 92 "OptimaWorksModel" "paramUnder" "[I"] : List Cond).all goodWord = true) gdwsX120) (gdV (by decide +kernel) gdwsRX12_placesOf)) (gdV (by decide +kernel) gdwsRX12_member)) (gdV (by decide +kernel) gdwsRX12_call)) (gdV (by decide +kernel) gdwsRX12_stepOne)) (gdV (by decide +kernel) gdwsRX12_nought))
set_option maxHeartbeats 4000000 in
set_option maxRecDepth 100000 in
/-- workName(f, n) -/
theorem r_X12_workName (l : Launch) (dC : Nat → ClassId) (dI : Nat → Nat → Nat) (a : Nat → Nat) (k : Nat → ClassId) (h0 : Nat) (vi : Nat → Int32) (vj : Nat → Int64) (vF : Nat → Nat → Int32) (vG : Nat → Nat → Int64) (nF : Nat → Nat → Int32) (V : Nat → Prop) (wt : Nat → Nat) (dp : Nat → Nat) (pd : Nat → Nat) (nN : Nat) (kN : Nat) (sN : Nat) (la : Nat) (hN : Nat) (pN : Nat) (rN : Nat) (fN : Nat) (fr : Nat) (aN : Nat) (plN : Nat) (se : Nat) (o1 : Nat) (o2 : Nat) (atN : Nat) (dN : Nat) (eN : Nat) (hnN : nN < 4000) (hfN : fN < 4299) (hkN : vF 29 nN = nI kN) (hsN : vF 53 fN = nI sN) (hfr9 : vi 89 = nI fr) (hfr1 : fr = fN + 1) (hTo : TopO nF V wt dp pd nN kN sN la hN pN rN) (haN : vF 30 nN = nI aN) (haN4 : aN < 44) (hkk : Kd23 kN) (hk23 : 2 ≤ kN ∧ kN ≤ 3) (hP2 : kN = 2 → vF 18 aN = nI plN) (hP3 : kN = 3 → vF 24 aN = nI plN) (hse44 : se ≤ 44) (hSe : SeO (vF 16) (vF 17) se) (hQ2 : kN = 2 → vF 19 aN = nI o1) (hR2 : kN = 2 → vF 20 aN = nI o2) (hA2 : kN = 2 → vF 21 aN = nI atN) (hQ3 : kN = 3 → vF 25 aN = nI o1) (hR3 : kN = 3 → vF 26 aN = nI o2) (hA3 : kN = 3 → vF 27 aN = nI atN) (hat : atN ≤ 6000) (hat3 : atN + 6000 * kN ≤ 18008) (hplN : plN ≤ 2 ∧ o1 < 44 ∧ o2 < 44) (hPk : PlK se plN o1 o2) (hPt : PtO (vF 22) (vF 23) (nuF nF)) (hN30 : nF 30 nN = nI aN) (hN19 : kN = 2 → nF 19 aN = nI o1) (hN17 : nF 17 = vF 17) (hmem : MmK nF kN plN o1 o2 atN) (hdN : 1 ≤ plN → vF 31 nN = nI dN ∧ KidL nF V dp pd nN 31 0 dN) (heN : plN = 2 → vF 32 nN = nI eN ∧ KidL nF V dp pd nN 32 0 eN) (h31 : ∀ c, KidL nF V dp pd nN 31 0 c → 1 ≤ plN) (h32 : ∀ c, KidL nF V dp pd nN 32 0 c → plN = 2) (hwN : WnK nF V wt dp pd nN plN dN) (hla : 0 < sN → vF 54 fN = nI la) (hpl : vi 81 = nI pN) (hRw : ∀ v9, v9 < pN → RowU (vF 49) (vF 50) v9) (hpp : hN + pd nN ≤ 80) (hpd : 1 ≤ pd nN) (hst0 : 0 ≤ (vi 21).toInt) (hst1 : (vi 21).toInt ≤ 0) (sz : Nat) : Met l yX12_workName wsRX12_workName ({ frames := 2, cells := 0, slots := 0, locals := 46 }) (va_Pc [.ref h0, .int (nI fN), .int (nI nN)] (fun U => U.heap.size = sz ∧ va_P (dC, dI) vwCl (WR a k h0 vi vj vF vG) U.heap ∧ va_K (dC, dI) vwCl (tX12 k) U ∧ va_D (fun _ => True) (WR a k h0 vi vj vF vG))) (va_Qv (fun (u : (Nat → Int32) × (Nat → Int32) × (Nat → Int32) × (Nat → Int32) × (Nat → Int32) × (Nat) × (Nat) × (Int32) × (Int32) × (Int32)) => (∀ v9, v9 < (u.2.2.2.2.2.2.1) → RowU (u.1) (u.2.1) v9) ∧ (0 ≤ ((u.2.2.2.2.2.2.2.1)).toInt) ∧ ((u.2.2.2.2.2.2.2.1) = vi 21 ∨ 0 < ((u.2.2.2.2.2.2.2.1)).toInt) ∧ (0 < ((u.2.2.2.2.2.2.2.1)).toInt ∨ StpO nF V wt dp pd nN kN fN hN rN (vF 52) (vF 53) (vF 54) (u.2.2.1) (u.2.2.2.1) (u.2.2.2.2.1) (u.2.2.2.2.2.1) (u.2.2.2.2.2.2.1)) ∧ ((u.2.2.2.2.2.1) ≤ fr + 1)) (fun (u : (Nat → Int32) × (Nat → Int32) × (Nat → Int32) × (Nat → Int32) × (Nat → Int32) × (Nat) × (Nat) × (Int32) × (Int32) × (Int32)) t => va_P (dC, dI) vwCl (WR a k h0 (fT (fT (fT (fT (fT vi 21 (u.2.2.2.2.2.2.2.1)) 22 (u.2.2.2.2.2.2.2.2.1)) 82 (u.2.2.2.2.2.2.2.2.2)) 81 (nI (u.2.2.2.2.2.2.1))) 89 (nI (u.2.2.2.2.2.1))) vj (fT (fT (fT (fT (fT vF 53 (u.2.2.2.1)) 54 (u.2.2.2.2.1)) 49 (u.1)) 50 (u.2.1)) 52 (u.2.2.1)) vG) t.heap ∧ va_D (va_A (WR a k h0 vi vj vF vG) sz) (WR a k h0 (fT (fT (fT (fT (fT vi 21 (u.2.2.2.2.2.2.2.1)) 22 (u.2.2.2.2.2.2.2.2.1)) 82 (u.2.2.2.2.2.2.2.2.2)) 81 (nI (u.2.2.2.2.2.2.1))) 89 (nI (u.2.2.2.2.2.1))) vj (fT (fT (fT (fT (fT vF 53 (u.2.2.2.1)) 54 (u.2.2.2.2.1)) 49 (u.1)) 50 (u.2.1)) 52 (u.2.2.1)) vG)) (va_A (WR a k h0 vi vj vF vG) sz)) 0 0 (va_A (WR a k h0 vi vj vF vG) sz) := by
  refine Met.ofW (cc := cX12_workName) (maxL := 8) (ret := none) (by decide) rfl ?_
  intro p e s m args below meth c s₁ B hml hv
  obtain ⟨rfl, hsz, hP, hK, hD0⟩ := hv
  have hx := B.exec
  have hb := B.bytes
  have hr := B.returns
  have hts := atoms_spec (ws := wsRX12_workName) B.pre
  have hown : s.vm.findClass RX12 = some m.cls := findClass_of_methodNamed B.named
  have hlocks := B.notSynchronized
  subst hsz
  have hD := hD0.self (sz := s.heap.size)
  generalize hAe : va_A (WR a k h0 vi vj vF vG) s.heap.size = A at hD ⊢
  have hA : ∀ q : Nat, s.heap.size ≤ q → A q := fun q h => by rw [← hAe]; exact Or.inr h
  have hS : va_S A s.heap s.heap [] := va_S.rf
  have hl := lv_entry ([.ref h0, .int (nI fN), .int (nI nN)]) (n := 8) (Nat.le_of_ble_eq_true rfl)
  rw [lg_entry_eq]
  generalize (lg_sl ([.ref h0, .int (nI fN), .int (nI nN)]) ++ List.replicate (8 - (lg_sl ([.ref h0, .int (nI fN), .int (nI nN)])).length) Slot.unset).toArray = ls at hl ⊢
  have hl : lv_has ls 8 [(0, .ref h0), (1, .int (nI fN)), (2, .int (nI nN))] := hl
  have hsd := hTo.name hkk h31 h32
  refine lv_aload_n hx hb dX12_workName_0 rfl (lv_at hl 0 rfl) ?_
  refine va_get (D := (dC, dI)) (ci := 12) (v := .ref (a 29)) (C := RX12) (T := TX12) (N := 163) (fs := fM (vS a vi vj)) hx hb hts iwsRX12_workName_in12 hown hK hP 0 rfl rfl 53 (by decide) (hts (.fieldLink RX12 110 "OptimaWorksModel" "kind" "[I") (by decide +kernel)) (fun _ h9 => h9) rfl dX12_workName_1 ?_
  refine lv_iload_n hx hb dX12_workName_4 rfl (lv_at hl 2 rfl) ?_
  refine va_iald (cA := k 29) (n := 4200) (f := (vF 29)) hx hb hK hP 30 29 (WR_get 29 (by decide)) (TR_get 29 (by decide)) (vp_in_nI (show nN < 4200 by omega) (by omega)) dX12_workName_5 ?_
  refine lv_topi (fun y1 hy1 => ?_)
  obtain rfl : ((vF 29) nN) = y1 := (hy1.trans (by rw [nI_clamp (by omega)])).symm
  refine lv_topi (fun y2 hy2 => ?_)
  obtain rfl : (nI kN) = y2 := (hy2.trans (hkN)).symm
  refine lv_iconst (v := 2) hx hb dX12_workName_6 (by decide) ?_
  refine W.cut (pc := 15) (fun H locs ls stk => ∃ (zk : Int32), ((zk).toInt + (kN : Int) = 3) ∧  stk = [.int zk] ∧ va_P (dC, dI) vwCl (WR a k h0 vi vj vF vG) H ∧ va_D A (WR a k h0 vi vj vF vG) ∧ va_S A s.heap H locs ∧ lv_has ls 8 [(0, .ref h0), (1, .int (nI fN)), (2, .int (nI nN))]) (fun join1 => ?_) ?_
  · refine lv_icmp_ne (tgt := 14) hx hb dX12_workName_7 (by decide) (fun c_7 => ?_) (fun c_7 => ?_)
    · have t_7 : ((kN : Nat) : Int) ≠ 2 := toI_ne c_7 (nI_toInt (by omega)) (by decide)
      refine lv_iconst (v := 0) hx hb dX12_workName_14 (by decide) ?_
      have hl : lv_has _ _ ([(0, .ref h0), (1, .int (nI fN)), (2, .int (nI nN))]) := lv_sub hl [0, 1, 2] rfl
      exact join1 _ _ _ _ ⟨0, by (have h9 : (0 : Int32).toInt = 0 := by decide); omega, rfl, hP, hD, hS, hl⟩
    · have t_7 : ((kN : Nat) : Int) = 2 := toI_nne c_7 (nI_toInt (by omega)) (by decide)
      refine lv_iconst (v := 1) hx hb dX12_workName_10 (by decide) ?_
      refine lv_goto (tgt := 15) hx hb dX12_workName_11 (by decide) ?_
      have hl : lv_has _ _ ([(0, .ref h0), (1, .int (nI fN)), (2, .int (nI nN))]) := lv_sub hl [0, 1, 2] rfl
      exact join1 _ _ _ _ ⟨1, by (have h9 : (1 : Int32).toInt = 1 := by decide); omega, rfl, hP, hD, hS, hl⟩
  · rintro H locs ls stk ⟨zk, hzk, rfl, hP, hD, hS, hl⟩
    refine lv_istore_n hx hb dX12_workName_15 rfl hl (by decide) rfl (fun ls (hl : lv_has ls _ ([(3, .int zk), (0, .ref h0), (1, .int (nI fN)), (2, .int (nI nN))])) => ?_)
    refine lv_aload_n hx hb dX12_workName_16 rfl (lv_at hl 1 rfl) ?_
    refine va_get (D := (dC, dI)) (ci := 12) (v := .ref (a 30)) (C := RX12) (T := TX12) (N := 163) (fs := fM (vS a vi vj)) hx hb hts iwsRX12_workName_in12 hown hK hP 0 rfl rfl 54 (by decide) (hts (.fieldLink RX12 113 "OptimaWorksModel" "partA" "[I") (by decide +kernel)) (fun _ h9 => h9) rfl dX12_workName_17 ?_
    refine lv_iload_n hx hb dX12_workName_20 rfl (lv_at hl 3 rfl) ?_
    refine va_iald (cA := k 30) (n := 4200) (f := (vF 30)) hx hb hK hP 31 30 (WR_get 30 (by decide)) (TR_get 30 (by decide)) (vp_in_nI (show nN < 4200 by omega) (by omega)) dX12_workName_21 ?_
    refine lv_topi (fun y3 hy3 => ?_)
    obtain rfl : ((vF 30) nN) = y3 := (hy3.trans (by rw [nI_clamp (by omega)])).symm
    refine lv_topi (fun y4 hy4 => ?_)
    obtain rfl : (nI aN) = y4 := (hy4.trans (haN)).symm
    refine lv_istore hx hb dX12_workName_22 hl (by decide) rfl (fun ls (hl : lv_has ls _ ([(4, .int (nI aN)), (3, .int zk), (0, .ref h0), (1, .int (nI fN)), (2, .int (nI nN))])) => ?_)
    refine lv_aload_n hx hb dX12_workName_24 rfl (lv_at hl 2 rfl) ?_
    refine lv_iload_n hx hb dX12_workName_25 rfl (lv_at hl 4 rfl) ?_
    have hFc := allFree hD hS hA
    refine va_calli (va_runV (As := [.int (nI nN)]) (rest := []) ⟨hx, hb, hml, hown, hts⟩ (r_X12_placesOf l dC dI a k h0 vi vj vF vG nN kN aN plN (by first | assumption | decide | omega | rfl) (by first | assumption | decide | omega | rfl) (by first | assumption | decide | omega | rfl) (by first | assumption | decide | omega | rfl) (by first | assumption | decide | omega | rfl) (by first | assumption | decide | omega | rfl) (by first | assumption | decide | omega | rfl) (by first | assumption | decide | omega | rfl) H.size) (cwV 1 hts gwsRX12_workName_0 rfl rfl rfl hd_yX12_placesOf_RX12 (by decide +kernel)) (fz_pre (va_recv hK hP (ci := 12) (q0 := 0) rfl rfl) hP hK hD) rfl rfl hl.1 rfl (lv_room (Nat.le_of_ble_eq_true rfl)) dX12_workName_26 (by decide +kernel)) hS (fun q _ h => hFc q h) hFc (fun r26 u t9_ H locs ht hvm hw9 hB9 hz1 hk1 hS => ?_)
    have hP : va_P (dC, dI) vwCl (WR a k h0 vi vj vF vG) H := fz_P ht hB9.1
    have hD : va_D A (WR a k h0 vi vj vF vG) := hB9.2.weaken (fun _ q _ h => hFc q.1 h)
    obtain rfl := hw9
    refine lv_istore hx hb dX12_workName_29 hl (by decide) rfl (fun ls (hl : lv_has ls _ ([(5, .int (nI plN)), (4, .int (nI aN)), (3, .int zk), (0, .ref h0), (1, .int (nI fN)), (2, .int (nI nN))])) => ?_)
    refine lv_iload_n hx hb dX12_workName_31 rfl (lv_at hl 2 rfl) ?_
    refine W.cut (pc := 52) (fun H locs ls stk =>  stk = [.int (nI o1)] ∧ va_P (dC, dI) vwCl (WR a k h0 vi vj vF vG) H ∧ va_D A (WR a k h0 vi vj vF vG) ∧ va_S A s.heap H locs ∧ lv_has ls 8 [(5, .int (nI plN)), (4, .int (nI aN)), (3, .int zk), (0, .ref h0), (1, .int (nI fN)), (2, .int (nI nN))]) (fun join2 => ?_) ?_
    · refine lv_if_eq (tgt := 45) hx hb dX12_workName_32 (by decide) (fun c_32 => ?_) (fun c_32 => ?_)
      · have t_32 : (zk).toInt = 0 := toI_eq c_32 rfl (by decide)
        refine lv_aload_n hx hb dX12_workName_45 rfl (lv_at hl 3 rfl) ?_
        refine va_get (D := (dC, dI)) (ci := 12) (v := .ref (a 25)) (C := RX12) (T := TX12) (N := 163) (fs := fM (vS a vi vj)) hx hb hts iwsRX12_workName_in12 hown hK hP 0 rfl rfl 48 (by decide) (hts (.fieldLink RX12 98 "OptimaWorksModel" "varOne" "[I") (by decide +kernel)) (fun _ h9 => h9) rfl dX12_workName_46 ?_
        refine lv_iload hx hb dX12_workName_49 (lv_at hl 1 rfl) ?_
        refine va_iald (cA := k 25) (n := 44) (f := (vF 25)) hx hb hK hP 26 25 (WR_get 25 (by decide)) (TR_get 25 (by decide)) (vp_in_nI (show aN < 44 by omega) (by omega)) dX12_workName_51 ?_
        refine lv_topi (fun y5 hy5 => ?_)
        obtain rfl : ((vF 25) aN) = y5 := (hy5.trans (by rw [nI_clamp (by omega)])).symm
        refine lv_topi (fun y6 hy6 => ?_)
        obtain rfl : (nI o1) = y6 := (hy6.trans (hQ3 (by omega))).symm
        have hl : lv_has _ _ ([(5, .int (nI plN)), (4, .int (nI aN)), (3, .int zk), (0, .ref h0), (1, .int (nI fN)), (2, .int (nI nN))]) := lv_sub hl [0, 1, 2, 3, 4, 5] rfl
        exact join2 _ _ _ _ ⟨rfl, hP, hD, hS, hl⟩
      · have t_32 : ¬ (zk).toInt = 0 := toI_neq c_32 rfl (by decide)
        refine lv_aload_n hx hb dX12_workName_35 rfl (lv_at hl 3 rfl) ?_
        refine va_get (D := (dC, dI)) (ci := 12) (v := .ref (a 19)) (C := RX12) (T := TX12) (N := 163) (fs := fM (vS a vi vj)) hx hb hts iwsRX12_workName_in12 hown hK hP 0 rfl rfl 42 (by decide) (hts (.fieldLink RX12 80 "OptimaWorksModel" "paramOne" "[I") (by decide +kernel)) (fun _ h9 => h9) rfl dX12_workName_36 ?_
        refine lv_iload hx hb dX12_workName_39 (lv_at hl 1 rfl) ?_
        refine va_iald (cA := k 19) (n := 44) (f := (vF 19)) hx hb hK hP 20 19 (WR_get 19 (by decide)) (TR_get 19 (by decide)) (vp_in_nI (show aN < 44 by omega) (by omega)) dX12_workName_41 ?_
        refine lv_topi (fun y7 hy7 => ?_)
        obtain rfl : ((vF 19) aN) = y7 := (hy7.trans (by rw [nI_clamp (by omega)])).symm
        refine lv_topi (fun y8 hy8 => ?_)
        obtain rfl : (nI o1) = y8 := (hy8.trans (hQ2 (by omega))).symm
        refine lv_goto (tgt := 52) hx hb dX12_workName_42 (by decide) ?_
        have hl : lv_has _ _ ([(5, .int (nI plN)), (4, .int (nI aN)), (3, .int zk), (0, .ref h0), (1, .int (nI fN)), (2, .int (nI nN))]) := lv_sub hl [0, 1, 2, 3, 4, 5] rfl
        exact join2 _ _ _ _ ⟨rfl, hP, hD, hS, hl⟩
    · rintro H locs ls stk ⟨rfl, hP, hD, hS, hl⟩
      refine lv_istore hx hb dX12_workName_52 hl (by decide) rfl (fun ls (hl : lv_has ls _ ([(6, .int (nI o1)), (5, .int (nI plN)), (4, .int (nI aN)), (3, .int zk), (0, .ref h0), (1, .int (nI fN)), (2, .int (nI nN))])) => ?_)
      refine lv_iload_n hx hb dX12_workName_54 rfl (lv_at hl 3 rfl) ?_
      refine W.cut (pc := 75) (fun H locs ls stk =>  stk = [.int (nI o2)] ∧ va_P (dC, dI) vwCl (WR a k h0 vi vj vF vG) H ∧ va_D A (WR a k h0 vi vj vF vG) ∧ va_S A s.heap H locs ∧ lv_has ls 8 [(6, .int (nI o1)), (5, .int (nI plN)), (4, .int (nI aN)), (3, .int zk), (0, .ref h0), (1, .int (nI fN)), (2, .int (nI nN))]) (fun join3 => ?_) ?_
      · refine lv_if_eq (tgt := 68) hx hb dX12_workName_55 (by decide) (fun c_55 => ?_) (fun c_55 => ?_)
        · have t_55 : (zk).toInt = 0 := toI_eq c_55 rfl (by decide)
          refine lv_aload_n hx hb dX12_workName_68 rfl (lv_at hl 4 rfl) ?_
          refine va_get (D := (dC, dI)) (ci := 12) (v := .ref (a 26)) (C := RX12) (T := TX12) (N := 163) (fs := fM (vS a vi vj)) hx hb hts iwsRX12_workName_in12 hown hK hP 0 rfl rfl 49 (by decide) (hts (.fieldLink RX12 101 "OptimaWorksModel" "varTwo" "[I") (by decide +kernel)) (fun _ h9 => h9) rfl dX12_workName_69 ?_
          refine lv_iload hx hb dX12_workName_72 (lv_at hl 2 rfl) ?_
          refine va_iald (cA := k 26) (n := 44) (f := (vF 26)) hx hb hK hP 27 26 (WR_get 26 (by decide)) (TR_get 26 (by decide)) (vp_in_nI (show aN < 44 by omega) (by omega)) dX12_workName_74 ?_
          refine lv_topi (fun y9 hy9 => ?_)
          obtain rfl : ((vF 26) aN) = y9 := (hy9.trans (by rw [nI_clamp (by omega)])).symm
          refine lv_topi (fun y10 hy10 => ?_)
          obtain rfl : (nI o2) = y10 := (hy10.trans (hR3 (by omega))).symm
          have hl : lv_has _ _ ([(6, .int (nI o1)), (5, .int (nI plN)), (4, .int (nI aN)), (3, .int zk), (0, .ref h0), (1, .int (nI fN)), (2, .int (nI nN))]) := lv_sub hl [0, 1, 2, 3, 4, 5, 6] rfl
          exact join3 _ _ _ _ ⟨rfl, hP, hD, hS, hl⟩
        · have t_55 : ¬ (zk).toInt = 0 := toI_neq c_55 rfl (by decide)
          refine lv_aload_n hx hb dX12_workName_58 rfl (lv_at hl 4 rfl) ?_
          refine va_get (D := (dC, dI)) (ci := 12) (v := .ref (a 20)) (C := RX12) (T := TX12) (N := 163) (fs := fM (vS a vi vj)) hx hb hts iwsRX12_workName_in12 hown hK hP 0 rfl rfl 43 (by decide) (hts (.fieldLink RX12 83 "OptimaWorksModel" "paramTwo" "[I") (by decide +kernel)) (fun _ h9 => h9) rfl dX12_workName_59 ?_
          refine lv_iload hx hb dX12_workName_62 (lv_at hl 2 rfl) ?_
          refine va_iald (cA := k 20) (n := 44) (f := (vF 20)) hx hb hK hP 21 20 (WR_get 20 (by decide)) (TR_get 20 (by decide)) (vp_in_nI (show aN < 44 by omega) (by omega)) dX12_workName_64 ?_
          refine lv_topi (fun y11 hy11 => ?_)
          obtain rfl : ((vF 20) aN) = y11 := (hy11.trans (by rw [nI_clamp (by omega)])).symm
          refine lv_topi (fun y12 hy12 => ?_)
          obtain rfl : (nI o2) = y12 := (hy12.trans (hR2 (by omega))).symm
          refine lv_goto (tgt := 75) hx hb dX12_workName_65 (by decide) ?_
          have hl : lv_has _ _ ([(6, .int (nI o1)), (5, .int (nI plN)), (4, .int (nI aN)), (3, .int zk), (0, .ref h0), (1, .int (nI fN)), (2, .int (nI nN))]) := lv_sub hl [0, 1, 2, 3, 4, 5, 6] rfl
          exact join3 _ _ _ _ ⟨rfl, hP, hD, hS, hl⟩
      · rintro H locs ls stk ⟨rfl, hP, hD, hS, hl⟩
        refine lv_istore hx hb dX12_workName_75 hl (by decide) rfl (fun ls (hl : lv_has ls _ ([(7, .int (nI o2)), (6, .int (nI o1)), (5, .int (nI plN)), (4, .int (nI aN)), (3, .int zk), (0, .ref h0), (1, .int (nI fN)), (2, .int (nI nN))])) => ?_)
        refine lv_aload_n hx hb dX12_workName_77 rfl (lv_at hl 5 rfl) ?_
        refine va_get (D := (dC, dI)) (ci := 12) (v := .ref (a 53)) (C := RX12) (T := TX12) (N := 163) (fs := fM (vS a vi vj)) hx hb hts iwsRX12_workName_in12 hown hK hP 0 rfl rfl 86 (by decide) (hts (.fieldLink RX12 182 "OptimaWorksModel" "stage" "[I") (by decide +kernel)) (fun _ h9 => h9) rfl dX12_workName_78 ?_
        refine lv_iload_n hx hb dX12_workName_81 rfl (lv_at hl 6 rfl) ?_
        refine lv_dup2_11 hx hb dX12_workName_82 rfl rfl ?_
        refine va_iald (cA := k 53) (n := 4300) (f := (vF 53)) hx hb hK hP 54 53 (WR_get 53 (by decide)) (TR_get 53 (by decide)) (vp_in_nI (show fN < 4300 by omega) (by omega)) dX12_workName_83 ?_
        refine lv_topi (fun y13 hy13 => ?_)
        obtain rfl : ((vF 53) fN) = y13 := (hy13.trans (by rw [nI_clamp (by omega)])).symm
        refine lv_topi (fun y14 hy14 => ?_)
        obtain rfl : (nI sN) = y14 := (hy14.trans (hsN)).symm
        refine lv_iconst (v := 1) hx hb dX12_workName_84 (by decide) ?_
        refine lv_iadd hx hb dX12_workName_85 ?_
        refine lv_topi (fun y15 hy15 => ?_)
        obtain rfl : (nI (sN + 1)) = y15 := (hy15.trans (nI_add sN 1)).symm
        refine va_iast (cA := k 53) (n := 4300) (f := (vF 53)) hx hb hK hP hD hS 54 53 (WR_get 53 (by decide)) (TR_get 53 (by decide)) (vp_in_nI (show fN < 4300 by omega) (by omega)) dX12_workName_86 (fun H locs hP hD hS => ?_)
        have hP : va_P (dC, dI) vwCl (WR a k h0 vi vj (fT vF 53 (upd (vF 53) ((nI fN)).toNatClampNeg (nI (sN + 1)))) vG) H := by rw [← WR_F 53 (by decide) _ rfl]; exact hP
        have hD : va_D A (WR a k h0 vi vj (fT vF 53 (upd (vF 53) ((nI fN)).toNatClampNeg (nI (sN + 1)))) vG) := by rw [← WR_F 53 (by decide) _ rfl]; exact hD
        refine lv_aload_n hx hb dX12_workName_87 rfl (lv_at hl 5 rfl) ?_
        refine va_get (D := (dC, dI)) (ci := 12) (v := .ref (a 53)) (C := RX12) (T := TX12) (N := 163) (fs := fM (vS a vi vj)) hx hb hts iwsRX12_workName_in12 hown hK hP 0 rfl rfl 86 (by decide) (hts (.fieldLink RX12 182 "OptimaWorksModel" "stage" "[I") (by decide +kernel)) (fun _ h9 => h9) rfl dX12_workName_88 ?_
        refine lv_iload_n hx hb dX12_workName_91 rfl (lv_at hl 6 rfl) ?_
        refine va_iald (cA := k 53) (n := 4300) (f := (upd (vF 53) ((nI fN)).toNatClampNeg (nI (sN + 1)))) hx hb hK hP 54 53 (WR_get 53 (by decide)) (TR_get 53 (by decide)) (vp_in_nI (show fN < 4300 by omega) (by omega)) dX12_workName_92 ?_
        refine lv_topi (fun y16 hy16 => ?_)
        obtain rfl : ((upd (vF 53) ((nI fN)).toNatClampNeg (nI (sN + 1))) fN) = y16 := (hy16.trans (by rw [nI_clamp (by omega)])).symm
        refine lv_topi (fun y17 hy17 => ?_)
        obtain rfl : (nI (sN + 1)) = y17 := (hy17.trans ((by rw [upd_at (by omega), if_pos rfl]))).symm
        refine lv_iconst (v := 1) hx hb dX12_workName_93 (by decide) ?_
        refine W.cut (pc := 212) (fun H locs ls stk => ∃ (s3 : Int32) (p3 : Int32) (sp3 : Int32) (pq : Nat) (f54x : Nat → Int32), (pq = hN) ∧ (0 ≤ (s3).toInt) ∧ (s3 = vi 21 ∨ 0 < (s3).toInt) ∧ (0 < (s3).toInt ∨ ∃ l4, l4 < 144 ∧ f54x fN = nI l4 ∧ LmK nF kN plN o1 o2 l4) ∧ (∀ q, q < fN → f54x q = vF 54 q) ∧  stk = [] ∧ va_P (dC, dI) vwCl (WR a k h0 (fT (fT (fT (fT vi 21 s3) 22 p3) 82 sp3) 81 (nI pq)) vj (fT (fT vF 53 (upd (vF 53) ((nI fN)).toNatClampNeg (nI (sN + 1)))) 54 f54x) vG) H ∧ va_D A (WR a k h0 (fT (fT (fT (fT vi 21 s3) 22 p3) 82 sp3) 81 (nI pq)) vj (fT (fT vF 53 (upd (vF 53) ((nI fN)).toNatClampNeg (nI (sN + 1)))) 54 f54x) vG) ∧ va_S A s.heap H locs ∧ lv_has ls 8 [(0, .ref h0), (1, .int (nI fN)), (2, .int (nI nN)), (3, .int zk), (4, .int (nI aN))]) (fun join4 => ?_) ?_
        · refine lv_icmp_ne (tgt := 124) hx hb dX12_workName_94 (by decide) (fun c_94 => ?_) (fun c_94 => ?_)
          · have t_94 : (((sN + 1) : Nat) : Int) ≠ 1 := toI_ne c_94 (nI_toInt (by omega)) (by decide)
            refine lv_aload_n hx hb dX12_workName_124 rfl (lv_at hl 5 rfl) ?_
            refine va_get (D := (dC, dI)) (ci := 12) (v := .ref (a 53)) (C := RX12) (T := TX12) (N := 163) (fs := fM (vS a vi vj)) hx hb hts iwsRX12_workName_in12 hown hK hP 0 rfl rfl 86 (by decide) (hts (.fieldLink RX12 182 "OptimaWorksModel" "stage" "[I") (by decide +kernel)) (fun _ h9 => h9) rfl dX12_workName_125 ?_
            refine lv_iload_n hx hb dX12_workName_128 rfl (lv_at hl 6 rfl) ?_
            refine va_iald (cA := k 53) (n := 4300) (f := (upd (vF 53) ((nI fN)).toNatClampNeg (nI (sN + 1)))) hx hb hK hP 54 53 (WR_get 53 (by decide)) (TR_get 53 (by decide)) (vp_in_nI (show fN < 4300 by omega) (by omega)) dX12_workName_129 ?_
            refine lv_topi (fun y18 hy18 => ?_)
            obtain rfl : ((upd (vF 53) ((nI fN)).toNatClampNeg (nI (sN + 1))) fN) = y18 := (hy18.trans (by rw [nI_clamp (by omega)])).symm
            refine lv_topi (fun y19 hy19 => ?_)
            obtain rfl : (nI (sN + 1)) = y19 := (hy19.trans ((by rw [upd_at (by omega), if_pos rfl]))).symm
            refine lv_iconst (v := 2) hx hb dX12_workName_130 (by decide) ?_
            refine lv_icmp_ne (tgt := 169) hx hb dX12_workName_131 (by decide) (fun c_131 => ?_) (fun c_131 => ?_)
            · have t_131 : (((sN + 1) : Nat) : Int) ≠ 2 := toI_ne c_131 (nI_toInt (by omega)) (by decide)
              refine lv_aload_n hx hb dX12_workName_169 rfl (lv_at hl 5 rfl) ?_
              refine va_get (D := (dC, dI)) (ci := 12) (v := .ref (a 53)) (C := RX12) (T := TX12) (N := 163) (fs := fM (vS a vi vj)) hx hb hts iwsRX12_workName_in12 hown hK hP 0 rfl rfl 86 (by decide) (hts (.fieldLink RX12 182 "OptimaWorksModel" "stage" "[I") (by decide +kernel)) (fun _ h9 => h9) rfl dX12_workName_170 ?_
              refine lv_iload_n hx hb dX12_workName_173 rfl (lv_at hl 6 rfl) ?_
              refine va_iald (cA := k 53) (n := 4300) (f := (upd (vF 53) ((nI fN)).toNatClampNeg (nI (sN + 1)))) hx hb hK hP 54 53 (WR_get 53 (by decide)) (TR_get 53 (by decide)) (vp_in_nI (show fN < 4300 by omega) (by omega)) dX12_workName_174 ?_
              refine lv_topi (fun y20 hy20 => ?_)
              obtain rfl : ((upd (vF 53) ((nI fN)).toNatClampNeg (nI (sN + 1))) fN) = y20 := (hy20.trans (by rw [nI_clamp (by omega)])).symm
              refine lv_topi (fun y21 hy21 => ?_)
              obtain rfl : (nI (sN + 1)) = y21 := (hy21.trans ((by rw [upd_at (by omega), if_pos rfl]))).symm
              refine lv_iconst (v := 3) hx hb dX12_workName_175 (by decide) ?_
              refine lv_icmp_ne (tgt := 212) hx hb dX12_workName_176 (by decide) (fun c9 => False.elim (by have t9 : (((sN + 1) : Nat) : Int) ≠ 3 := toI_ne c9 (nI_toInt (by omega)) (by decide); omega)) (fun c_176 => ?_)
              have t_176 : (((sN + 1) : Nat) : Int) = 3 := toI_nne c_176 (nI_toInt (by omega)) (by decide)
              have hoS1 : o1 < se := hPk.1 (by omega)
              obtain ⟨⟨m1, hm1a, hm1b, em1⟩, _⟩ := hSe o1 hoS1
              have hoS2 : o2 < se := hPk.2 (by omega)
              obtain ⟨⟨m2, hm2a, hm2b, em2⟩, _⟩ := hSe o2 hoS2
              have hlb := hTo.nameB hkk (by omega)
              have hlm : la * m2 ≤ 11 * 12 := Nat.mul_le_mul (by omega) hm2b
              refine lv_aload_n hx hb dX12_workName_179 rfl (lv_at hl 5 rfl) ?_
              refine va_get (D := (dC, dI)) (ci := 12) (v := .ref (a 54)) (C := RX12) (T := TX12) (N := 163) (fs := fM (vS a vi vj)) hx hb hts iwsRX12_workName_in12 hown hK hP 0 rfl rfl 87 (by decide) (hts (.fieldLink RX12 185 "OptimaWorksModel" "loopA" "[I") (by decide +kernel)) (fun _ h9 => h9) rfl dX12_workName_180 ?_
              refine lv_iload_n hx hb dX12_workName_183 rfl (lv_at hl 6 rfl) ?_
              refine lv_aload_n hx hb dX12_workName_184 rfl (lv_at hl 5 rfl) ?_
              refine va_get (D := (dC, dI)) (ci := 12) (v := .ref (a 54)) (C := RX12) (T := TX12) (N := 163) (fs := fM (vS a vi vj)) hx hb hts iwsRX12_workName_in12 hown hK hP 0 rfl rfl 87 (by decide) (hts (.fieldLink RX12 185 "OptimaWorksModel" "loopA" "[I") (by decide +kernel)) (fun _ h9 => h9) rfl dX12_workName_185 ?_
              refine lv_iload_n hx hb dX12_workName_188 rfl (lv_at hl 6 rfl) ?_
              refine va_iald (cA := k 54) (n := 4300) (f := (vF 54)) hx hb hK hP 55 54 (WR_get 54 (by decide)) (TR_get 54 (by decide)) (vp_in_nI (show fN < 4300 by omega) (by omega)) dX12_workName_189 ?_
              refine lv_topi (fun y22 hy22 => ?_)
              obtain rfl : ((vF 54) fN) = y22 := (hy22.trans (by rw [nI_clamp (by omega)])).symm
              refine lv_topi (fun y23 hy23 => ?_)
              obtain rfl : (nI la) = y23 := (hy23.trans (hla (by omega))).symm
              refine lv_aload_n hx hb dX12_workName_190 rfl (lv_at hl 5 rfl) ?_
              refine va_get (D := (dC, dI)) (ci := 12) (v := .ref (a 17)) (C := RX12) (T := TX12) (N := 163) (fs := fM (vS a vi vj)) hx hb hts iwsRX12_workName_in12 hown hK hP 0 rfl rfl 40 (by decide) (hts (.fieldLink RX12 74 "OptimaWorksModel" "setMany" "[I") (by decide +kernel)) (fun _ h9 => h9) rfl dX12_workName_191 ?_
              refine lv_iload hx hb dX12_workName_194 (lv_at hl 0 rfl) ?_
              refine va_iald (cA := k 17) (n := 44) (f := (vF 17)) hx hb hK hP 18 17 (WR_get 17 (by decide)) (TR_get 17 (by decide)) (vp_in_nI (show o2 < 44 by omega) (by omega)) dX12_workName_196 ?_
              refine lv_topi (fun y24 hy24 => ?_)
              obtain rfl : ((vF 17) o2) = y24 := (hy24.trans (by rw [nI_clamp (by omega)])).symm
              refine lv_topi (fun y25 hy25 => ?_)
              obtain rfl : (nI m2) = y25 := (hy25.trans (em2)).symm
              refine lv_imul hx hb dX12_workName_197 ?_
              refine lv_topi (fun y26 hy26 => ?_)
              obtain rfl : (nI (la * m2)) = y26 := (hy26.trans (pk_mul la m2)).symm
              refine lv_aload_n hx hb dX12_workName_198 rfl (lv_at hl 5 rfl) ?_
              refine lv_iload hx hb dX12_workName_199 (lv_at hl 0 rfl) ?_
              refine lv_aload_n hx hb dX12_workName_201 rfl (lv_at hl 5 rfl) ?_
              refine va_get (D := (dC, dI)) (ci := 12) (v := .ref (a 35)) (C := RX12) (T := TX12) (N := 163) (fs := fM (vS a vi vj)) hx hb hts iwsRX12_workName_in12 hown hK hP 0 rfl rfl 59 (by decide) (hts (.fieldLink RX12 128 "OptimaWorksModel" "firstB" "[I") (by decide +kernel)) (fun _ h9 => h9) rfl dX12_workName_202 ?_
              refine lv_iload_n hx hb dX12_workName_205 rfl (lv_at hl 7 rfl) ?_
              refine va_iald (cA := k 35) (n := 4200) (f := (vF 35)) hx hb hK hP 36 35 (WR_get 35 (by decide)) (TR_get 35 (by decide)) (vp_in_nI (show nN < 4200 by omega) (by omega)) dX12_workName_206 ?_
              refine lv_topi (fun y27 hy27 => ?_)
              obtain rfl : ((vF 35) nN) = y27 := (hy27.trans (by rw [nI_clamp (by omega)])).symm
              have hFc := allFree hD hS hA
              refine va_calli (va_runV (As := [.int (nI o2), .int ((vF 35) nN)]) (rest := [.int (nI (la * m2)), .int (nI fN), .ref (a 54)]) ⟨hx, hb, hml, hown, hts⟩ (r_X12_member l dC dI a k h0 vi vj (fT vF 53 (upd (vF 53) ((nI fN)).toNatClampNeg (nI (sN + 1)))) vG o2 ((vF 35) nN) se m2 hN (by first | assumption | decide | omega | rfl) (by first | assumption | decide | omega | rfl) (hoS2) (em2) (⟨hm2a, hm2b⟩) (hpl.trans (congrArg nI (show pN = hN + 1 by omega))) (by first | assumption | decide | omega | rfl) (hRw hN (by omega)) (by first | assumption | decide | omega | rfl) (by first | assumption | decide | omega | rfl) H.size) (cwV 2 hts gwsRX12_workName_1 rfl rfl rfl hd_yX12_member_RX12 (by decide +kernel)) (fz_pre (va_recv hK hP (ci := 12) (q0 := 0) rfl rfl) hP hK hD) rfl rfl hl.1 rfl (lv_room (Nat.le_of_ble_eq_true rfl)) dX12_workName_207 (by decide +kernel)) hS (fun q _ h => hFc q h) hFc (fun r207 u t9_ H locs ht hvm hw9 hB9 hz1 hk1 hS => ?_)
              obtain ⟨s2207, p2207⟩ := u
              try dsimp only at hw9 hB9
              have hP : va_P (dC, dI) vwCl (WR a k h0 (fT (fT (fT vi 81 (nI hN)) 21 s2207) 22 p2207) vj (fT vF 53 (upd (vF 53) ((nI fN)).toNatClampNeg (nI (sN + 1)))) vG) H := fz_P ht hB9.1
              have hD : va_D A (WR a k h0 (fT (fT (fT vi 81 (nI hN)) 21 s2207) 22 p2207) vj (fT vF 53 (upd (vF 53) ((nI fN)).toNatClampNeg (nI (sN + 1)))) vG) := hB9.2.weaken (fun _ q _ h => hFc q.1 h)
              obtain ⟨f207_0, f207_1⟩ := hw9
              have f207_1 : (0 < (s2207).toInt) ∨ (s2207 = (vi 21) ∧ ∃ k, k < 12 ∧ (r207) = nI k ∧ (vF 17) o2 = nI m2 ∧ k < m2) := f207_1
              refine lv_iadd hx hb dX12_workName_210 ?_
              refine va_iast (cA := k 54) (n := 4300) (f := (vF 54)) hx hb hK hP hD hS 55 54 (WR_get 54 (by decide)) (TR_get 54 (by decide)) (vp_in_nI (show fN < 4300 by omega) (by omega)) dX12_workName_211 (fun H locs hP hD hS => ?_)
              have hP : va_P (dC, dI) vwCl (WR a k h0 (fT (fT (fT vi 81 (nI hN)) 21 s2207) 22 p2207) vj (fT (fT vF 53 (upd (vF 53) ((nI fN)).toNatClampNeg (nI (sN + 1)))) 54 (upd (vF 54) ((nI fN)).toNatClampNeg ((nI (la * m2)) + r207))) vG) H := by rw [← WR_F 54 (by decide) _ rfl]; exact hP
              have hD : va_D A (WR a k h0 (fT (fT (fT vi 81 (nI hN)) 21 s2207) 22 p2207) vj (fT (fT vF 53 (upd (vF 53) ((nI fN)).toNatClampNeg (nI (sN + 1)))) 54 (upd (vF 54) ((nI fN)).toNatClampNeg ((nI (la * m2)) + r207))) vG) := by rw [← WR_F 54 (by decide) _ rfl]; exact hD
              have e9 : fT (fT (fT (fT vi 21 s2207) 22 p2207) 82 (vi 82)) 81 (nI hN) = fT (fT (fT vi 81 (nI hN)) 21 s2207) 22 p2207 := by funext q9; by_cases h9_21 : q9 = 21; (subst h9_21; exact ((fT_ne _ _ (Nat.ne_of_beq_eq_false rfl)).trans ((fT_ne _ _ (Nat.ne_of_beq_eq_false rfl)).trans ((fT_ne _ _ (Nat.ne_of_beq_eq_false rfl)).trans (fT_eq _ _ _)))).trans (Eq.trans (by first | rfl | assumption | (symm; assumption) | (subst_vars; rfl)) ((fT_ne _ _ (Nat.ne_of_beq_eq_false rfl)).trans (fT_eq _ _ _)).symm)); by_cases h9_22 : q9 = 22; (subst h9_22; exact ((fT_ne _ _ (Nat.ne_of_beq_eq_false rfl)).trans ((fT_ne _ _ (Nat.ne_of_beq_eq_false rfl)).trans (fT_eq _ _ _))).trans (Eq.trans (by first | rfl | assumption | (symm; assumption) | (subst_vars; rfl)) (fT_eq _ _ _).symm)); by_cases h9_82 : q9 = 82; (subst h9_82; exact ((fT_ne _ _ (Nat.ne_of_beq_eq_false rfl)).trans (fT_eq _ _ _)).trans (Eq.trans (by first | rfl | assumption | (symm; assumption) | (subst_vars; rfl)) ((fT_ne _ _ (Nat.ne_of_beq_eq_false rfl)).trans ((fT_ne _ _ (Nat.ne_of_beq_eq_false rfl)).trans (fT_ne _ _ (Nat.ne_of_beq_eq_false rfl)))).symm)); by_cases h9_81 : q9 = 81; (subst h9_81; exact (fT_eq _ _ _).trans (Eq.trans (by first | rfl | assumption | (symm; assumption) | (subst_vars; rfl)) ((fT_ne _ _ (Nat.ne_of_beq_eq_false rfl)).trans ((fT_ne _ _ (Nat.ne_of_beq_eq_false rfl)).trans (fT_eq _ _ _))).symm)); exact ((fT_ne _ _ h9_81).trans ((fT_ne _ _ h9_82).trans ((fT_ne _ _ h9_22).trans (fT_ne _ _ h9_21)))).trans ((fT_ne _ _ h9_22).trans ((fT_ne _ _ h9_21).trans (fT_ne _ _ h9_81))).symm
              have hP : va_P (dC, dI) vwCl (WR a k h0 (fT (fT (fT (fT vi 21 s2207) 22 p2207) 82 (vi 82)) 81 (nI hN)) vj (fT (fT vF 53 (upd (vF 53) ((nI fN)).toNatClampNeg (nI (sN + 1)))) 54 (upd (vF 54) ((nI fN)).toNatClampNeg ((nI (la * m2)) + r207))) vG) H := by rw [e9]; exact hP
              have hD : va_D A (WR a k h0 (fT (fT (fT (fT vi 21 s2207) 22 p2207) 82 (vi 82)) 81 (nI hN)) vj (fT (fT vF 53 (upd (vF 53) ((nI fN)).toNatClampNeg (nI (sN + 1)))) 54 (upd (vF 54) ((nI fN)).toNatClampNeg ((nI (la * m2)) + r207))) vG) := by rw [e9]; exact hD
              clear e9
              have hl : lv_has _ _ ([(0, .ref h0), (1, .int (nI fN)), (2, .int (nI nN)), (3, .int zk), (4, .int (nI aN))]) := lv_sub hl [5, 6, 7, 4, 3] rfl
              exact join4 _ _ _ _ ⟨s2207, p2207, (vi 82), hN, (upd (vF 54) ((nI fN)).toNatClampNeg ((nI (la * m2)) + r207)), by omega, f207_0, by (rcases f207_1 with h9 | ⟨h9, _⟩); (exact Or.inr h9); (exact Or.inl h9), by (rcases f207_1 with h9 | ⟨h9, k9, hk9, hr9, e17, hkm⟩); (exact Or.inl h9); (exact Or.inr ⟨la * m2 + k9, by omega, by rw [upd_at (by omega), if_pos rfl, hr9]; exact nI_add _ _, LmK.l2 hN17 (by omega) em1 hm1b em2 hm2b (fun h2 => hlb.use h2 hN30 haN4 hN19 hplN.2.1 ((congrFun hN17 o1).trans em1) hm1b) hkm⟩), fun q hq => by rw [upd_at (by omega), if_neg (by omega)], rfl, hP, hD, hS, hl⟩
            · have t_131 : (((sN + 1) : Nat) : Int) = 2 := toI_nne c_131 (nI_toInt (by omega)) (by decide)
              have hoS1 : o1 < se := hPk.1 (by omega)
              obtain ⟨⟨m1, hm1a, hm1b, em1⟩, _⟩ := hSe o1 hoS1
              refine lv_aload_n hx hb dX12_workName_134 rfl (lv_at hl 5 rfl) ?_
              refine va_get (D := (dC, dI)) (ci := 12) (v := .ref (a 54)) (C := RX12) (T := TX12) (N := 163) (fs := fM (vS a vi vj)) hx hb hts iwsRX12_workName_in12 hown hK hP 0 rfl rfl 87 (by decide) (hts (.fieldLink RX12 185 "OptimaWorksModel" "loopA" "[I") (by decide +kernel)) (fun _ h9 => h9) rfl dX12_workName_135 ?_
              refine lv_iload_n hx hb dX12_workName_138 rfl (lv_at hl 6 rfl) ?_
              refine lv_aload_n hx hb dX12_workName_139 rfl (lv_at hl 5 rfl) ?_
              refine lv_iload hx hb dX12_workName_140 (lv_at hl 1 rfl) ?_
              refine lv_aload_n hx hb dX12_workName_142 rfl (lv_at hl 5 rfl) ?_
              refine va_get (D := (dC, dI)) (ci := 12) (v := .ref (a 34)) (C := RX12) (T := TX12) (N := 163) (fs := fM (vS a vi vj)) hx hb hts iwsRX12_workName_in12 hown hK hP 0 rfl rfl 58 (by decide) (hts (.fieldLink RX12 125 "OptimaWorksModel" "firstA" "[I") (by decide +kernel)) (fun _ h9 => h9) rfl dX12_workName_143 ?_
              refine lv_iload_n hx hb dX12_workName_146 rfl (lv_at hl 7 rfl) ?_
              refine va_iald (cA := k 34) (n := 4200) (f := (vF 34)) hx hb hK hP 35 34 (WR_get 34 (by decide)) (TR_get 34 (by decide)) (vp_in_nI (show nN < 4200 by omega) (by omega)) dX12_workName_147 ?_
              refine lv_topi (fun y28 hy28 => ?_)
              obtain rfl : ((vF 34) nN) = y28 := (hy28.trans (by rw [nI_clamp (by omega)])).symm
              have hFc := allFree hD hS hA
              refine va_calli (va_runV (As := [.int (nI o1), .int ((vF 34) nN)]) (rest := [.int (nI fN), .ref (a 54)]) ⟨hx, hb, hml, hown, hts⟩ (r_X12_member l dC dI a k h0 vi vj (fT vF 53 (upd (vF 53) ((nI fN)).toNatClampNeg (nI (sN + 1)))) vG o1 ((vF 34) nN) se m1 hN (by first | assumption | decide | omega | rfl) (by first | assumption | decide | omega | rfl) (hoS1) (em1) (⟨hm1a, hm1b⟩) (hpl.trans (congrArg nI (show pN = hN + 1 by omega))) (by first | assumption | decide | omega | rfl) (hRw hN (by omega)) (by first | assumption | decide | omega | rfl) (by first | assumption | decide | omega | rfl) H.size) (cwV 2 hts gwsRX12_workName_1 rfl rfl rfl hd_yX12_member_RX12 (by decide +kernel)) (fz_pre (va_recv hK hP (ci := 12) (q0 := 0) rfl rfl) hP hK hD) rfl rfl hl.1 rfl (lv_room (Nat.le_of_ble_eq_true rfl)) dX12_workName_148 (by decide +kernel)) hS (fun q _ h => hFc q h) hFc (fun r148 u t9_ H locs ht hvm hw9 hB9 hz1 hk1 hS => ?_)
              obtain ⟨s2148, p2148⟩ := u
              try dsimp only at hw9 hB9
              have hP : va_P (dC, dI) vwCl (WR a k h0 (fT (fT (fT vi 81 (nI hN)) 21 s2148) 22 p2148) vj (fT vF 53 (upd (vF 53) ((nI fN)).toNatClampNeg (nI (sN + 1)))) vG) H := fz_P ht hB9.1
              have hD : va_D A (WR a k h0 (fT (fT (fT vi 81 (nI hN)) 21 s2148) 22 p2148) vj (fT vF 53 (upd (vF 53) ((nI fN)).toNatClampNeg (nI (sN + 1)))) vG) := hB9.2.weaken (fun _ q _ h => hFc q.1 h)
              obtain ⟨f148_0, f148_1⟩ := hw9
              have f148_1 : (0 < (s2148).toInt) ∨ (s2148 = (vi 21) ∧ ∃ k, k < 12 ∧ (r148) = nI k ∧ (vF 17) o1 = nI m1 ∧ k < m1) := f148_1
              refine va_iast (cA := k 54) (n := 4300) (f := (vF 54)) hx hb hK hP hD hS 55 54 (WR_get 54 (by decide)) (TR_get 54 (by decide)) (vp_in_nI (show fN < 4300 by omega) (by omega)) dX12_workName_151 (fun H locs hP hD hS => ?_)
              have hP : va_P (dC, dI) vwCl (WR a k h0 (fT (fT (fT vi 81 (nI hN)) 21 s2148) 22 p2148) vj (fT (fT vF 53 (upd (vF 53) ((nI fN)).toNatClampNeg (nI (sN + 1)))) 54 (upd (vF 54) ((nI fN)).toNatClampNeg r148)) vG) H := by rw [← WR_F 54 (by decide) _ rfl]; exact hP
              have hD : va_D A (WR a k h0 (fT (fT (fT vi 81 (nI hN)) 21 s2148) 22 p2148) vj (fT (fT vF 53 (upd (vF 53) ((nI fN)).toNatClampNeg (nI (sN + 1)))) 54 (upd (vF 54) ((nI fN)).toNatClampNeg r148)) vG) := by rw [← WR_F 54 (by decide) _ rfl]; exact hD
              refine lv_iload hx hb dX12_workName_152 (lv_at hl 2 rfl) ?_
              refine lv_iconst (v := 1) hx hb dX12_workName_154 (by decide) ?_
              refine lv_icmp_le (tgt := 169) hx hb dX12_workName_155 (by decide) (fun c_155 => ?_) (fun c_155 => ?_)
              · have t_155 : ((plN : Nat) : Int) ≤ 1 := toI_le c_155 (nI_toInt (by omega)) (by decide)
                refine lv_aload_n hx hb dX12_workName_169 rfl (lv_at hl 5 rfl) ?_
                refine va_get (D := (dC, dI)) (ci := 12) (v := .ref (a 53)) (C := RX12) (T := TX12) (N := 163) (fs := fM (vS a (fT (fT (fT vi 81 (nI hN)) 21 s2148) 22 p2148) vj)) hx hb hts iwsRX12_workName_in12 hown hK hP 0 rfl rfl 86 (by decide) (hts (.fieldLink RX12 182 "OptimaWorksModel" "stage" "[I") (by decide +kernel)) (fun _ h9 => h9) rfl dX12_workName_170 ?_
                refine lv_iload_n hx hb dX12_workName_173 rfl (lv_at hl 6 rfl) ?_
                refine va_iald (cA := k 53) (n := 4300) (f := (upd (vF 53) ((nI fN)).toNatClampNeg (nI (sN + 1)))) hx hb hK hP 54 53 (WR_get 53 (by decide)) (TR_get 53 (by decide)) (vp_in_nI (show fN < 4300 by omega) (by omega)) dX12_workName_174 ?_
                refine lv_topi (fun y29 hy29 => ?_)
                obtain rfl : ((upd (vF 53) ((nI fN)).toNatClampNeg (nI (sN + 1))) fN) = y29 := (hy29.trans (by rw [nI_clamp (by omega)])).symm
                refine lv_topi (fun y30 hy30 => ?_)
                obtain rfl : (nI (sN + 1)) = y30 := (hy30.trans ((by rw [upd_at (by omega), if_pos rfl]))).symm
                refine lv_iconst (v := 3) hx hb dX12_workName_175 (by decide) ?_
                refine lv_icmp_ne (tgt := 212) hx hb dX12_workName_176 (by decide) (fun c_176 => ?_) (fun c9 => False.elim (by have t9 : (((sN + 1) : Nat) : Int) = 3 := toI_nne c9 (nI_toInt (by omega)) (by decide); omega))
                have t_176 : (((sN + 1) : Nat) : Int) ≠ 3 := toI_ne c_176 (nI_toInt (by omega)) (by decide)
                have e9 : fT (fT (fT (fT vi 21 s2148) 22 p2148) 82 (vi 82)) 81 (nI hN) = fT (fT (fT vi 81 (nI hN)) 21 s2148) 22 p2148 := by funext q9; by_cases h9_21 : q9 = 21; (subst h9_21; exact ((fT_ne _ _ (Nat.ne_of_beq_eq_false rfl)).trans ((fT_ne _ _ (Nat.ne_of_beq_eq_false rfl)).trans ((fT_ne _ _ (Nat.ne_of_beq_eq_false rfl)).trans (fT_eq _ _ _)))).trans (Eq.trans (by first | rfl | assumption | (symm; assumption) | (subst_vars; rfl)) ((fT_ne _ _ (Nat.ne_of_beq_eq_false rfl)).trans (fT_eq _ _ _)).symm)); by_cases h9_22 : q9 = 22; (subst h9_22; exact ((fT_ne _ _ (Nat.ne_of_beq_eq_false rfl)).trans ((fT_ne _ _ (Nat.ne_of_beq_eq_false rfl)).trans (fT_eq _ _ _))).trans (Eq.trans (by first | rfl | assumption | (symm; assumption) | (subst_vars; rfl)) (fT_eq _ _ _).symm)); by_cases h9_82 : q9 = 82; (subst h9_82; exact ((fT_ne _ _ (Nat.ne_of_beq_eq_false rfl)).trans (fT_eq _ _ _)).trans (Eq.trans (by first | rfl | assumption | (symm; assumption) | (subst_vars; rfl)) ((fT_ne _ _ (Nat.ne_of_beq_eq_false rfl)).trans ((fT_ne _ _ (Nat.ne_of_beq_eq_false rfl)).trans (fT_ne _ _ (Nat.ne_of_beq_eq_false rfl)))).symm)); by_cases h9_81 : q9 = 81; (subst h9_81; exact (fT_eq _ _ _).trans (Eq.trans (by first | rfl | assumption | (symm; assumption) | (subst_vars; rfl)) ((fT_ne _ _ (Nat.ne_of_beq_eq_false rfl)).trans ((fT_ne _ _ (Nat.ne_of_beq_eq_false rfl)).trans (fT_eq _ _ _))).symm)); exact ((fT_ne _ _ h9_81).trans ((fT_ne _ _ h9_82).trans ((fT_ne _ _ h9_22).trans (fT_ne _ _ h9_21)))).trans ((fT_ne _ _ h9_22).trans ((fT_ne _ _ h9_21).trans (fT_ne _ _ h9_81))).symm
                have hP : va_P (dC, dI) vwCl (WR a k h0 (fT (fT (fT (fT vi 21 s2148) 22 p2148) 82 (vi 82)) 81 (nI hN)) vj (fT (fT vF 53 (upd (vF 53) ((nI fN)).toNatClampNeg (nI (sN + 1)))) 54 (upd (vF 54) ((nI fN)).toNatClampNeg r148)) vG) H := by rw [e9]; exact hP
                have hD : va_D A (WR a k h0 (fT (fT (fT (fT vi 21 s2148) 22 p2148) 82 (vi 82)) 81 (nI hN)) vj (fT (fT vF 53 (upd (vF 53) ((nI fN)).toNatClampNeg (nI (sN + 1)))) 54 (upd (vF 54) ((nI fN)).toNatClampNeg r148)) vG) := by rw [e9]; exact hD
                clear e9
                have hl : lv_has _ _ ([(0, .ref h0), (1, .int (nI fN)), (2, .int (nI nN)), (3, .int zk), (4, .int (nI aN))]) := lv_sub hl [5, 6, 7, 4, 3] rfl
                exact join4 _ _ _ _ ⟨s2148, p2148, (vi 82), hN, (upd (vF 54) ((nI fN)).toNatClampNeg r148), by omega, f148_0, by (rcases f148_1 with h9 | ⟨h9, _⟩); (exact Or.inr h9); (exact Or.inl h9), by (rcases f148_1 with h9 | ⟨h9, k9, hk9, hr9, e17, hkm⟩); (exact Or.inl h9); (exact Or.inr ⟨k9, by omega, by rw [upd_at (by omega), if_pos rfl]; exact hr9, LmK.l1 hN17 (by omega) e17 hm1b hkm⟩), fun q hq => by rw [upd_at (by omega), if_neg (by omega)], rfl, hP, hD, hS, hl⟩
              · have t_155 : ¬ ((plN : Nat) : Int) ≤ 1 := toI_nle c_155 (nI_toInt (by omega)) (by decide)
                refine lv_aload_n hx hb dX12_workName_158 rfl (lv_at hl 5 rfl) ?_
                refine lv_aload_n hx hb dX12_workName_159 rfl (lv_at hl 5 rfl) ?_
                refine va_get (D := (dC, dI)) (ci := 12) (v := .ref (a 32)) (C := RX12) (T := TX12) (N := 163) (fs := fM (vS a (fT (fT (fT vi 81 (nI hN)) 21 s2148) 22 p2148) vj)) hx hb hts iwsRX12_workName_in12 hown hK hP 0 rfl rfl 56 (by decide) (hts (.fieldLink RX12 119 "OptimaWorksModel" "partC" "[I") (by decide +kernel)) (fun _ h9 => h9) rfl dX12_workName_160 ?_
                refine lv_iload_n hx hb dX12_workName_163 rfl (lv_at hl 7 rfl) ?_
                refine va_iald (cA := k 32) (n := 4200) (f := (vF 32)) hx hb hK hP 33 32 (WR_get 32 (by decide)) (TR_get 32 (by decide)) (vp_in_nI (show nN < 4200 by omega) (by omega)) dX12_workName_164 ?_
                refine lv_topi (fun y31 hy31 => ?_)
                obtain rfl : ((vF 32) nN) = y31 := (hy31.trans (by rw [nI_clamp (by omega)])).symm
                refine lv_topi (fun y32 hy32 => ?_)
                obtain rfl : (nI eN) = y32 := (hy32.trans ((heN (by omega)).1)).symm
                have hFc := allFree hD hS hA
                refine va_callv (va_runV (As := [.int (nI eN)]) (rest := []) ⟨hx, hb, hml, hown, hts⟩ (r_X12_call l dC dI a k h0 (fT (fT (fT vi 81 (nI hN)) 21 s2148) 22 p2148) vj (fT (fT vF 53 (upd (vF 53) ((nI fN)).toNatClampNeg (nI (sN + 1)))) 54 (upd (vF 54) ((nI fN)).toNatClampNeg r148)) vG (nI eN) fr hfr9 (by first | assumption | decide | omega | rfl) H.size) (cwV 1 hts gwsRX12_workName_2 rfl rfl rfl hd_yX12_call_RX12 (by decide +kernel)) (fz_pre (va_recv hK hP (ci := 12) (q0 := 0) rfl rfl) hP hK hD) rfl rfl hl.1 rfl (lv_room (Nat.le_of_ble_eq_true rfl)) dX12_workName_165 (by decide +kernel)) hS (fun q _ h => hFc q h) hFc (fun u t9_ H locs ht hvm hw9 hB9 hz1 hk1 hS => ?_)
                have hP : va_P (dC, dI) vwCl (WR a k h0 (fT (fT (fT (fT vi 81 (nI hN)) 21 s2148) 22 p2148) 89 (nI (fr + 1))) vj (fT (fT (fT (fT vF 53 (upd (vF 53) ((nI fN)).toNatClampNeg (nI (sN + 1)))) 54 (upd (vF 54) ((nI fN)).toNatClampNeg r148)) 52 (upd (vF 52) (nI fr).toNatClampNeg (nI eN))) 53 (upd (upd (vF 53) ((nI fN)).toNatClampNeg (nI (sN + 1))) (nI fr).toNatClampNeg 0)) vG) H := fz_P ht hB9.1
                have hD : va_D A (WR a k h0 (fT (fT (fT (fT vi 81 (nI hN)) 21 s2148) 22 p2148) 89 (nI (fr + 1))) vj (fT (fT (fT (fT vF 53 (upd (vF 53) ((nI fN)).toNatClampNeg (nI (sN + 1)))) 54 (upd (vF 54) ((nI fN)).toNatClampNeg r148)) 52 (upd (vF 52) (nI fr).toNatClampNeg (nI eN))) 53 (upd (upd (vF 53) ((nI fN)).toNatClampNeg (nI (sN + 1))) (nI fr).toNatClampNeg 0)) vG) := hB9.2.weaken (fun _ q _ h => hFc q.1 h)
                have e9 : fT (fT (fT vF 53 (upd (upd (vF 53) ((nI fN)).toNatClampNeg (nI (sN + 1))) (nI fr).toNatClampNeg 0)) 54 (upd (vF 54) ((nI fN)).toNatClampNeg r148)) 52 (upd (vF 52) (nI fr).toNatClampNeg (nI eN)) = fT (fT (fT (fT vF 53 (upd (vF 53) ((nI fN)).toNatClampNeg (nI (sN + 1)))) 54 (upd (vF 54) ((nI fN)).toNatClampNeg r148)) 52 (upd (vF 52) (nI fr).toNatClampNeg (nI eN))) 53 (upd (upd (vF 53) ((nI fN)).toNatClampNeg (nI (sN + 1))) (nI fr).toNatClampNeg 0) := ((fT_sw _ _ _ (Nat.ne_of_beq_eq_false rfl)).trans (congrArg (fun g9 => fT g9 52 (upd (vF 52) (nI fr).toNatClampNeg (nI eN))) ((fT_sw _ _ _ (Nat.ne_of_beq_eq_false rfl)).trans (congrArg (fun g9 => fT g9 54 (upd (vF 54) ((nI fN)).toNatClampNeg r148)) (fT_sm _ _ _ _))))).symm
                rw [← e9] at hP hD
                clear e9
                have hP : va_P (dC, dI) vwCl (WR a k h0 (fT (fT (fT (fT vi 81 (nI hN)) 21 s2148) 22 p2148) 89 (nI (fr + 1))) vj (fT (fT (fT vF 53 (upd (upd (vF 53) ((nI fN)).toNatClampNeg (nI (sN + 1))) (nI fr).toNatClampNeg 0)) 54 (upd (vF 54) ((nI fN)).toNatClampNeg r148)) 52 (upd (vF 52) (nI fr).toNatClampNeg (nI eN))) vG) H := hP
                have hD : va_D A (WR a k h0 (fT (fT (fT (fT vi 81 (nI hN)) 21 s2148) 22 p2148) 89 (nI (fr + 1))) vj (fT (fT (fT vF 53 (upd (upd (vF 53) ((nI fN)).toNatClampNeg (nI (sN + 1))) (nI fr).toNatClampNeg 0)) 54 (upd (vF 54) ((nI fN)).toNatClampNeg r148)) 52 (upd (vF 52) (nI fr).toNatClampNeg (nI eN))) vG) := hD
                refine W.widen (k := 0) (n := 0) (by decide +kernel) (by decide +kernel) ?_
                have e9 : fT (fT (fT (fT (fT vi 21 s2148) 22 p2148) 82 (vi 82)) 81 (nI hN)) 89 (nI (fr + 1)) = fT (fT (fT (fT vi 81 (nI hN)) 21 s2148) 22 p2148) 89 (nI (fr + 1)) := by funext q9; by_cases h9_21 : q9 = 21; (subst h9_21; exact ((fT_ne _ _ (Nat.ne_of_beq_eq_false rfl)).trans ((fT_ne _ _ (Nat.ne_of_beq_eq_false rfl)).trans ((fT_ne _ _ (Nat.ne_of_beq_eq_false rfl)).trans ((fT_ne _ _ (Nat.ne_of_beq_eq_false rfl)).trans (fT_eq _ _ _))))).trans (Eq.trans (by first | rfl | assumption | (symm; assumption) | (subst_vars; rfl)) ((fT_ne _ _ (Nat.ne_of_beq_eq_false rfl)).trans ((fT_ne _ _ (Nat.ne_of_beq_eq_false rfl)).trans (fT_eq _ _ _))).symm)); by_cases h9_22 : q9 = 22; (subst h9_22; exact ((fT_ne _ _ (Nat.ne_of_beq_eq_false rfl)).trans ((fT_ne _ _ (Nat.ne_of_beq_eq_false rfl)).trans ((fT_ne _ _ (Nat.ne_of_beq_eq_false rfl)).trans (fT_eq _ _ _)))).trans (Eq.trans (by first | rfl | assumption | (symm; assumption) | (subst_vars; rfl)) ((fT_ne _ _ (Nat.ne_of_beq_eq_false rfl)).trans (fT_eq _ _ _)).symm)); by_cases h9_82 : q9 = 82; (subst h9_82; exact ((fT_ne _ _ (Nat.ne_of_beq_eq_false rfl)).trans ((fT_ne _ _ (Nat.ne_of_beq_eq_false rfl)).trans (fT_eq _ _ _))).trans (Eq.trans (by first | rfl | assumption | (symm; assumption) | (subst_vars; rfl)) ((fT_ne _ _ (Nat.ne_of_beq_eq_false rfl)).trans ((fT_ne _ _ (Nat.ne_of_beq_eq_false rfl)).trans ((fT_ne _ _ (Nat.ne_of_beq_eq_false rfl)).trans (fT_ne _ _ (Nat.ne_of_beq_eq_false rfl))))).symm)); by_cases h9_81 : q9 = 81; (subst h9_81; exact ((fT_ne _ _ (Nat.ne_of_beq_eq_false rfl)).trans (fT_eq _ _ _)).trans (Eq.trans (by first | rfl | assumption | (symm; assumption) | (subst_vars; rfl)) ((fT_ne _ _ (Nat.ne_of_beq_eq_false rfl)).trans ((fT_ne _ _ (Nat.ne_of_beq_eq_false rfl)).trans ((fT_ne _ _ (Nat.ne_of_beq_eq_false rfl)).trans (fT_eq _ _ _)))).symm)); by_cases h9_89 : q9 = 89; (subst h9_89; exact (fT_eq _ _ _).trans (Eq.trans (by first | rfl | assumption | (symm; assumption) | (subst_vars; rfl)) (fT_eq _ _ _).symm)); exact ((fT_ne _ _ h9_89).trans ((fT_ne _ _ h9_81).trans ((fT_ne _ _ h9_82).trans ((fT_ne _ _ h9_22).trans (fT_ne _ _ h9_21))))).trans ((fT_ne _ _ h9_89).trans ((fT_ne _ _ h9_22).trans ((fT_ne _ _ h9_21).trans (fT_ne _ _ h9_81)))).symm
                have hP : va_P (dC, dI) vwCl (WR a k h0 (fT (fT (fT (fT (fT vi 21 s2148) 22 p2148) 82 (vi 82)) 81 (nI hN)) 89 (nI (fr + 1))) vj (fT (fT (fT vF 53 (upd (upd (vF 53) ((nI fN)).toNatClampNeg (nI (sN + 1))) (nI fr).toNatClampNeg 0)) 54 (upd (vF 54) ((nI fN)).toNatClampNeg r148)) 52 (upd (vF 52) (nI fr).toNatClampNeg (nI eN))) vG) H := by rw [e9]; exact hP
                have hD : va_D A (WR a k h0 (fT (fT (fT (fT (fT vi 21 s2148) 22 p2148) 82 (vi 82)) 81 (nI hN)) 89 (nI (fr + 1))) vj (fT (fT (fT vF 53 (upd (upd (vF 53) ((nI fN)).toNatClampNeg (nI (sN + 1))) (nI fr).toNatClampNeg 0)) 54 (upd (vF 54) ((nI fN)).toNatClampNeg r148)) 52 (upd (vF 52) (nI fr).toNatClampNeg (nI eN))) vG) := by rw [e9]; exact hD
                clear e9
                have e9 : fT (fT (fT (fT (fT vF 53 (upd (upd (vF 53) ((nI fN)).toNatClampNeg (nI (sN + 1))) (nI fr).toNatClampNeg 0)) 54 (upd (vF 54) ((nI fN)).toNatClampNeg r148)) 49 (vF 49)) 50 (vF 50)) 52 (upd (vF 52) (nI fr).toNatClampNeg (nI eN)) = fT (fT (fT vF 53 (upd (upd (vF 53) ((nI fN)).toNatClampNeg (nI (sN + 1))) (nI fr).toNatClampNeg 0)) 54 (upd (vF 54) ((nI fN)).toNatClampNeg r148)) 52 (upd (vF 52) (nI fr).toNatClampNeg (nI eN)) := by funext q9; by_cases h9_53 : q9 = 53; (subst h9_53; exact ((fT_ne _ _ (Nat.ne_of_beq_eq_false rfl)).trans ((fT_ne _ _ (Nat.ne_of_beq_eq_false rfl)).trans ((fT_ne _ _ (Nat.ne_of_beq_eq_false rfl)).trans ((fT_ne _ _ (Nat.ne_of_beq_eq_false rfl)).trans (fT_eq _ _ _))))).trans (Eq.trans (by first | rfl | assumption | (symm; assumption) | (subst_vars; rfl)) ((fT_ne _ _ (Nat.ne_of_beq_eq_false rfl)).trans ((fT_ne _ _ (Nat.ne_of_beq_eq_false rfl)).trans (fT_eq _ _ _))).symm)); by_cases h9_54 : q9 = 54; (subst h9_54; exact ((fT_ne _ _ (Nat.ne_of_beq_eq_false rfl)).trans ((fT_ne _ _ (Nat.ne_of_beq_eq_false rfl)).trans ((fT_ne _ _ (Nat.ne_of_beq_eq_false rfl)).trans (fT_eq _ _ _)))).trans (Eq.trans (by first | rfl | assumption | (symm; assumption) | (subst_vars; rfl)) ((fT_ne _ _ (Nat.ne_of_beq_eq_false rfl)).trans (fT_eq _ _ _)).symm)); by_cases h9_49 : q9 = 49; (subst h9_49; exact ((fT_ne _ _ (Nat.ne_of_beq_eq_false rfl)).trans ((fT_ne _ _ (Nat.ne_of_beq_eq_false rfl)).trans (fT_eq _ _ _))).trans (Eq.trans (by first | rfl | assumption | (symm; assumption) | (subst_vars; rfl)) ((fT_ne _ _ (Nat.ne_of_beq_eq_false rfl)).trans ((fT_ne _ _ (Nat.ne_of_beq_eq_false rfl)).trans (fT_ne _ _ (Nat.ne_of_beq_eq_false rfl)))).symm)); by_cases h9_50 : q9 = 50; (subst h9_50; exact ((fT_ne _ _ (Nat.ne_of_beq_eq_false rfl)).trans (fT_eq _ _ _)).trans (Eq.trans (by first | rfl | assumption | (symm; assumption) | (subst_vars; rfl)) ((fT_ne _ _ (Nat.ne_of_beq_eq_false rfl)).trans ((fT_ne _ _ (Nat.ne_of_beq_eq_false rfl)).trans (fT_ne _ _ (Nat.ne_of_beq_eq_false rfl)))).symm)); by_cases h9_52 : q9 = 52; (subst h9_52; exact (fT_eq _ _ _).trans (Eq.trans (by first | rfl | assumption | (symm; assumption) | (subst_vars; rfl)) (fT_eq _ _ _).symm)); exact ((fT_ne _ _ h9_52).trans ((fT_ne _ _ h9_50).trans ((fT_ne _ _ h9_49).trans ((fT_ne _ _ h9_54).trans (fT_ne _ _ h9_53))))).trans ((fT_ne _ _ h9_52).trans ((fT_ne _ _ h9_54).trans (fT_ne _ _ h9_53))).symm
                have hP : va_P (dC, dI) vwCl (WR a k h0 (fT (fT (fT (fT (fT vi 21 s2148) 22 p2148) 82 (vi 82)) 81 (nI hN)) 89 (nI (fr + 1))) vj (fT (fT (fT (fT (fT vF 53 (upd (upd (vF 53) ((nI fN)).toNatClampNeg (nI (sN + 1))) (nI fr).toNatClampNeg 0)) 54 (upd (vF 54) ((nI fN)).toNatClampNeg r148)) 49 (vF 49)) 50 (vF 50)) 52 (upd (vF 52) (nI fr).toNatClampNeg (nI eN))) vG) H := by rw [e9]; exact hP
                have hD : va_D A (WR a k h0 (fT (fT (fT (fT (fT vi 21 s2148) 22 p2148) 82 (vi 82)) 81 (nI hN)) 89 (nI (fr + 1))) vj (fT (fT (fT (fT (fT vF 53 (upd (upd (vF 53) ((nI fN)).toNatClampNeg (nI (sN + 1))) (nI fr).toNatClampNeg 0)) 54 (upd (vF 54) ((nI fN)).toNatClampNeg r148)) 49 (vF 49)) 50 (vF 50)) 52 (upd (vF 52) (nI fr).toNatClampNeg (nI eN))) vG) := by rw [e9]; exact hD
                clear e9
                exact W.vret hx hb hr (fun t9_ ht hW => ⟨⟨((vF 49), (vF 50), (upd (vF 52) (nI fr).toNatClampNeg (nI eN)), (upd (upd (vF 53) ((nI fN)).toNatClampNeg (nI (sN + 1))) (nI fr).toNatClampNeg 0), (upd (vF 54) ((nI fN)).toNatClampNeg r148), (fr + 1), hN, s2148, p2148, (vi 82)), rfl, by (try dsimp only); exact ⟨fun v9 h9 => hRw v9 (by clear f148_1; omega), f148_0, by (rcases f148_1 with h9 | ⟨h9, _⟩); (exact Or.inr h9); (exact Or.inl h9), by (rcases f148_1 with h9 | ⟨h9, k9, hk9, hr9, e17, hkm⟩); (exact Or.inl h9); (exact Or.inr (by (obtain rfl : sN = 1 := by omega); (obtain ⟨e32, heT⟩ := heN (by omega)); (have hq2 := heT.2.2.2.1); (have hq3 := hTo.name1 hkk heT); exact StpO.push 2 k9 1 hfN hfr1 (fun q hq => by rw [upd_at (by omega), if_neg (by omega)]) (fun _ => by rw [upd_at (by omega), if_pos rfl]; exact hr9) heT.2.1 heT.2.2.1 (by omega) (WtO.n2 hkk heT.2.2.2.2 (by omega) (LaB.mk hk9 hN30 haN4 hN19 hplN.2.1 ((congrFun hN17 o1).trans e17) hm1b hkm) heT) (by omega))), by clear f148_1; omega⟩, by rw [ht]; exact hP, hD⟩, hS.F ht⟩) hS.2.2 dX12_workName_168
          · have t_94 : (((sN + 1) : Nat) : Int) = 1 := toI_nne c_94 (nI_toInt (by omega)) (by decide)
            refine lv_aload_n hx hb dX12_workName_97 rfl (lv_at hl 5 rfl) ?_
            have hFc := allFree hD hS hA
            refine va_callv (va_runV (As := []) (rest := []) ⟨hx, hb, hml, hown, hts⟩ (r_X12_stepOne l dC dI a k h0 vi vj (fT vF 53 (upd (vF 53) ((nI fN)).toNatClampNeg (nI (sN + 1)))) vG (by first | assumption | decide | omega | rfl) H.size) (cwV 0 hts gwsRX12_workName_3 rfl rfl rfl hd_yX12_stepOne_RX12 (by decide +kernel)) (fz_pre (va_recv hK hP (ci := 12) (q0 := 0) rfl rfl) hP hK hD) rfl rfl hl.1 rfl (lv_room (Nat.le_of_ble_eq_true rfl)) dX12_workName_98 (by decide +kernel)) hS (fun q _ h => hFc q h) hFc (fun u t9_ H locs ht hvm hw9 hB9 hz1 hk1 hS => ?_)
            obtain ⟨s298, p298, sp298⟩ := u
            try dsimp only at hw9 hB9
            have hP : va_P (dC, dI) vwCl (WR a k h0 (fT (fT (fT vi 21 s298) 22 p298) 82 sp298) vj (fT vF 53 (upd (vF 53) ((nI fN)).toNatClampNeg (nI (sN + 1)))) vG) H := fz_P ht hB9.1
            have hD : va_D A (WR a k h0 (fT (fT (fT vi 21 s298) 22 p298) 82 sp298) vj (fT vF 53 (upd (vF 53) ((nI fN)).toNatClampNeg (nI (sN + 1)))) vG) := hB9.2.weaken (fun _ q _ h => hFc q.1 h)
            obtain ⟨f98_0, f98_1⟩ := hw9
            have f98_1 : s298 = (vi 21) ∨ 0 < (s298).toInt := f98_1
            refine lv_aload_n hx hb dX12_workName_101 rfl (lv_at hl 5 rfl) ?_
            refine va_get (D := (dC, dI)) (ci := 12) (v := .ref (a 54)) (C := RX12) (T := TX12) (N := 163) (fs := fM (vS a (fT (fT (fT vi 21 s298) 22 p298) 82 sp298) vj)) hx hb hts iwsRX12_workName_in12 hown hK hP 0 rfl rfl 87 (by decide) (hts (.fieldLink RX12 185 "OptimaWorksModel" "loopA" "[I") (by decide +kernel)) (fun _ h9 => h9) rfl dX12_workName_102 ?_
            refine lv_iload_n hx hb dX12_workName_105 rfl (lv_at hl 6 rfl) ?_
            refine lv_iconst (v := 0) hx hb dX12_workName_106 (by decide) ?_
            refine va_iast (cA := k 54) (n := 4300) (f := (vF 54)) hx hb hK hP hD hS 55 54 (WR_get 54 (by decide)) (TR_get 54 (by decide)) (vp_in_nI (show fN < 4300 by omega) (by omega)) dX12_workName_107 (fun H locs hP hD hS => ?_)
            have hP : va_P (dC, dI) vwCl (WR a k h0 (fT (fT (fT vi 21 s298) 22 p298) 82 sp298) vj (fT (fT vF 53 (upd (vF 53) ((nI fN)).toNatClampNeg (nI (sN + 1)))) 54 (upd (vF 54) ((nI fN)).toNatClampNeg 0)) vG) H := by rw [← WR_F 54 (by decide) _ rfl]; exact hP
            have hD : va_D A (WR a k h0 (fT (fT (fT vi 21 s298) 22 p298) 82 sp298) vj (fT (fT vF 53 (upd (vF 53) ((nI fN)).toNatClampNeg (nI (sN + 1)))) 54 (upd (vF 54) ((nI fN)).toNatClampNeg 0)) vG) := by rw [← WR_F 54 (by decide) _ rfl]; exact hD
            refine lv_iload hx hb dX12_workName_108 (lv_at hl 2 rfl) ?_
            refine lv_if_le (tgt := 124) hx hb dX12_workName_110 (by decide) (fun c_110 => ?_) (fun c_110 => ?_)
            · have t_110 : ((plN : Nat) : Int) ≤ 0 := toI_le c_110 (nI_toInt (by omega)) (by decide)
              refine lv_aload_n hx hb dX12_workName_124 rfl (lv_at hl 5 rfl) ?_
              refine va_get (D := (dC, dI)) (ci := 12) (v := .ref (a 53)) (C := RX12) (T := TX12) (N := 163) (fs := fM (vS a (fT (fT (fT vi 21 s298) 22 p298) 82 sp298) vj)) hx hb hts iwsRX12_workName_in12 hown hK hP 0 rfl rfl 86 (by decide) (hts (.fieldLink RX12 182 "OptimaWorksModel" "stage" "[I") (by decide +kernel)) (fun _ h9 => h9) rfl dX12_workName_125 ?_
              refine lv_iload_n hx hb dX12_workName_128 rfl (lv_at hl 6 rfl) ?_
              refine va_iald (cA := k 53) (n := 4300) (f := (upd (vF 53) ((nI fN)).toNatClampNeg (nI (sN + 1)))) hx hb hK hP 54 53 (WR_get 53 (by decide)) (TR_get 53 (by decide)) (vp_in_nI (show fN < 4300 by omega) (by omega)) dX12_workName_129 ?_
              refine lv_topi (fun y33 hy33 => ?_)
              obtain rfl : ((upd (vF 53) ((nI fN)).toNatClampNeg (nI (sN + 1))) fN) = y33 := (hy33.trans (by rw [nI_clamp (by omega)])).symm
              refine lv_topi (fun y34 hy34 => ?_)
              obtain rfl : (nI (sN + 1)) = y34 := (hy34.trans ((by rw [upd_at (by omega), if_pos rfl]))).symm
              refine lv_iconst (v := 2) hx hb dX12_workName_130 (by decide) ?_
              refine lv_icmp_ne (tgt := 169) hx hb dX12_workName_131 (by decide) (fun c_131 => ?_) (fun c9 => False.elim (by have t9 : (((sN + 1) : Nat) : Int) = 2 := toI_nne c9 (nI_toInt (by omega)) (by decide); omega))
              have t_131 : (((sN + 1) : Nat) : Int) ≠ 2 := toI_ne c_131 (nI_toInt (by omega)) (by decide)
              refine lv_aload_n hx hb dX12_workName_169 rfl (lv_at hl 5 rfl) ?_
              refine va_get (D := (dC, dI)) (ci := 12) (v := .ref (a 53)) (C := RX12) (T := TX12) (N := 163) (fs := fM (vS a (fT (fT (fT vi 21 s298) 22 p298) 82 sp298) vj)) hx hb hts iwsRX12_workName_in12 hown hK hP 0 rfl rfl 86 (by decide) (hts (.fieldLink RX12 182 "OptimaWorksModel" "stage" "[I") (by decide +kernel)) (fun _ h9 => h9) rfl dX12_workName_170 ?_
              refine lv_iload_n hx hb dX12_workName_173 rfl (lv_at hl 6 rfl) ?_
              refine va_iald (cA := k 53) (n := 4300) (f := (upd (vF 53) ((nI fN)).toNatClampNeg (nI (sN + 1)))) hx hb hK hP 54 53 (WR_get 53 (by decide)) (TR_get 53 (by decide)) (vp_in_nI (show fN < 4300 by omega) (by omega)) dX12_workName_174 ?_
              refine lv_topi (fun y35 hy35 => ?_)
              obtain rfl : ((upd (vF 53) ((nI fN)).toNatClampNeg (nI (sN + 1))) fN) = y35 := (hy35.trans (by rw [nI_clamp (by omega)])).symm
              refine lv_topi (fun y36 hy36 => ?_)
              obtain rfl : (nI (sN + 1)) = y36 := (hy36.trans ((by rw [upd_at (by omega), if_pos rfl]))).symm
              refine lv_iconst (v := 3) hx hb dX12_workName_175 (by decide) ?_
              refine lv_icmp_ne (tgt := 212) hx hb dX12_workName_176 (by decide) (fun c_176 => ?_) (fun c9 => False.elim (by have t9 : (((sN + 1) : Nat) : Int) = 3 := toI_nne c9 (nI_toInt (by omega)) (by decide); omega))
              have t_176 : (((sN + 1) : Nat) : Int) ≠ 3 := toI_ne c_176 (nI_toInt (by omega)) (by decide)
              have e9 : fT (fT (fT (fT vi 21 s298) 22 p298) 82 sp298) 81 (nI pN) = fT (fT (fT vi 21 s298) 22 p298) 82 sp298 := by funext q9; by_cases h9_21 : q9 = 21; (subst h9_21; exact ((fT_ne _ _ (Nat.ne_of_beq_eq_false rfl)).trans ((fT_ne _ _ (Nat.ne_of_beq_eq_false rfl)).trans ((fT_ne _ _ (Nat.ne_of_beq_eq_false rfl)).trans (fT_eq _ _ _)))).trans (Eq.trans (by first | rfl | assumption | (symm; assumption) | (subst_vars; rfl)) ((fT_ne _ _ (Nat.ne_of_beq_eq_false rfl)).trans ((fT_ne _ _ (Nat.ne_of_beq_eq_false rfl)).trans (fT_eq _ _ _))).symm)); by_cases h9_22 : q9 = 22; (subst h9_22; exact ((fT_ne _ _ (Nat.ne_of_beq_eq_false rfl)).trans ((fT_ne _ _ (Nat.ne_of_beq_eq_false rfl)).trans (fT_eq _ _ _))).trans (Eq.trans (by first | rfl | assumption | (symm; assumption) | (subst_vars; rfl)) ((fT_ne _ _ (Nat.ne_of_beq_eq_false rfl)).trans (fT_eq _ _ _)).symm)); by_cases h9_82 : q9 = 82; (subst h9_82; exact ((fT_ne _ _ (Nat.ne_of_beq_eq_false rfl)).trans (fT_eq _ _ _)).trans (Eq.trans (by first | rfl | assumption | (symm; assumption) | (subst_vars; rfl)) (fT_eq _ _ _).symm)); by_cases h9_81 : q9 = 81; (subst h9_81; exact (fT_eq _ _ _).trans (Eq.trans (by first | rfl | assumption | (symm; assumption) | (subst_vars; rfl)) ((fT_ne _ _ (Nat.ne_of_beq_eq_false rfl)).trans ((fT_ne _ _ (Nat.ne_of_beq_eq_false rfl)).trans (fT_ne _ _ (Nat.ne_of_beq_eq_false rfl)))).symm)); exact ((fT_ne _ _ h9_81).trans ((fT_ne _ _ h9_82).trans ((fT_ne _ _ h9_22).trans (fT_ne _ _ h9_21)))).trans ((fT_ne _ _ h9_82).trans ((fT_ne _ _ h9_22).trans (fT_ne _ _ h9_21))).symm
              have hP : va_P (dC, dI) vwCl (WR a k h0 (fT (fT (fT (fT vi 21 s298) 22 p298) 82 sp298) 81 (nI pN)) vj (fT (fT vF 53 (upd (vF 53) ((nI fN)).toNatClampNeg (nI (sN + 1)))) 54 (upd (vF 54) ((nI fN)).toNatClampNeg 0)) vG) H := by rw [e9]; exact hP
              have hD : va_D A (WR a k h0 (fT (fT (fT (fT vi 21 s298) 22 p298) 82 sp298) 81 (nI pN)) vj (fT (fT vF 53 (upd (vF 53) ((nI fN)).toNatClampNeg (nI (sN + 1)))) 54 (upd (vF 54) ((nI fN)).toNatClampNeg 0)) vG) := by rw [e9]; exact hD
              clear e9
              have hl : lv_has _ _ ([(0, .ref h0), (1, .int (nI fN)), (2, .int (nI nN)), (3, .int zk), (4, .int (nI aN))]) := lv_sub hl [5, 6, 7, 4, 3] rfl
              exact join4 _ _ _ _ ⟨s298, p298, sp298, pN, (upd (vF 54) ((nI fN)).toNatClampNeg 0), by omega, f98_0, f98_1, Or.inr ⟨0, by omega, by rw [upd_at (by omega), if_pos rfl]; exact nI_0.symm, LmK.l0 (by omega)⟩, fun q hq => by rw [upd_at (by omega), if_neg (by omega)], rfl, hP, hD, hS, hl⟩
            · have t_110 : ¬ ((plN : Nat) : Int) ≤ 0 := toI_nle c_110 (nI_toInt (by omega)) (by decide)
              refine lv_aload_n hx hb dX12_workName_113 rfl (lv_at hl 5 rfl) ?_
              refine lv_aload_n hx hb dX12_workName_114 rfl (lv_at hl 5 rfl) ?_
              refine va_get (D := (dC, dI)) (ci := 12) (v := .ref (a 31)) (C := RX12) (T := TX12) (N := 163) (fs := fM (vS a (fT (fT (fT vi 21 s298) 22 p298) 82 sp298) vj)) hx hb hts iwsRX12_workName_in12 hown hK hP 0 rfl rfl 55 (by decide) (hts (.fieldLink RX12 116 "OptimaWorksModel" "partB" "[I") (by decide +kernel)) (fun _ h9 => h9) rfl dX12_workName_115 ?_
              refine lv_iload_n hx hb dX12_workName_118 rfl (lv_at hl 7 rfl) ?_
              refine va_iald (cA := k 31) (n := 4200) (f := (vF 31)) hx hb hK hP 32 31 (WR_get 31 (by decide)) (TR_get 31 (by decide)) (vp_in_nI (show nN < 4200 by omega) (by omega)) dX12_workName_119 ?_
              refine lv_topi (fun y37 hy37 => ?_)
              obtain rfl : ((vF 31) nN) = y37 := (hy37.trans (by rw [nI_clamp (by omega)])).symm
              refine lv_topi (fun y38 hy38 => ?_)
              obtain rfl : (nI dN) = y38 := (hy38.trans ((hdN (by omega)).1)).symm
              have hFc := allFree hD hS hA
              refine va_callv (va_runV (As := [.int (nI dN)]) (rest := []) ⟨hx, hb, hml, hown, hts⟩ (r_X12_call l dC dI a k h0 (fT (fT (fT vi 21 s298) 22 p298) 82 sp298) vj (fT (fT vF 53 (upd (vF 53) ((nI fN)).toNatClampNeg (nI (sN + 1)))) 54 (upd (vF 54) ((nI fN)).toNatClampNeg 0)) vG (nI dN) fr hfr9 (by first | assumption | decide | omega | rfl) H.size) (cwV 1 hts gwsRX12_workName_2 rfl rfl rfl hd_yX12_call_RX12 (by decide +kernel)) (fz_pre (va_recv hK hP (ci := 12) (q0 := 0) rfl rfl) hP hK hD) rfl rfl hl.1 rfl (lv_room (Nat.le_of_ble_eq_true rfl)) dX12_workName_120 (by decide +kernel)) hS (fun q _ h => hFc q h) hFc (fun u t9_ H locs ht hvm hw9 hB9 hz1 hk1 hS => ?_)
              have hP : va_P (dC, dI) vwCl (WR a k h0 (fT (fT (fT (fT vi 21 s298) 22 p298) 82 sp298) 89 (nI (fr + 1))) vj (fT (fT (fT (fT vF 53 (upd (vF 53) ((nI fN)).toNatClampNeg (nI (sN + 1)))) 54 (upd (vF 54) ((nI fN)).toNatClampNeg 0)) 52 (upd (vF 52) (nI fr).toNatClampNeg (nI dN))) 53 (upd (upd (vF 53) ((nI fN)).toNatClampNeg (nI (sN + 1))) (nI fr).toNatClampNeg 0)) vG) H := fz_P ht hB9.1
              have hD : va_D A (WR a k h0 (fT (fT (fT (fT vi 21 s298) 22 p298) 82 sp298) 89 (nI (fr + 1))) vj (fT (fT (fT (fT vF 53 (upd (vF 53) ((nI fN)).toNatClampNeg (nI (sN + 1)))) 54 (upd (vF 54) ((nI fN)).toNatClampNeg 0)) 52 (upd (vF 52) (nI fr).toNatClampNeg (nI dN))) 53 (upd (upd (vF 53) ((nI fN)).toNatClampNeg (nI (sN + 1))) (nI fr).toNatClampNeg 0)) vG) := hB9.2.weaken (fun _ q _ h => hFc q.1 h)
              have e9 : fT (fT (fT vF 53 (upd (upd (vF 53) ((nI fN)).toNatClampNeg (nI (sN + 1))) (nI fr).toNatClampNeg 0)) 54 (upd (vF 54) ((nI fN)).toNatClampNeg 0)) 52 (upd (vF 52) (nI fr).toNatClampNeg (nI dN)) = fT (fT (fT (fT vF 53 (upd (vF 53) ((nI fN)).toNatClampNeg (nI (sN + 1)))) 54 (upd (vF 54) ((nI fN)).toNatClampNeg 0)) 52 (upd (vF 52) (nI fr).toNatClampNeg (nI dN))) 53 (upd (upd (vF 53) ((nI fN)).toNatClampNeg (nI (sN + 1))) (nI fr).toNatClampNeg 0) := ((fT_sw _ _ _ (Nat.ne_of_beq_eq_false rfl)).trans (congrArg (fun g9 => fT g9 52 (upd (vF 52) (nI fr).toNatClampNeg (nI dN))) ((fT_sw _ _ _ (Nat.ne_of_beq_eq_false rfl)).trans (congrArg (fun g9 => fT g9 54 (upd (vF 54) ((nI fN)).toNatClampNeg 0)) (fT_sm _ _ _ _))))).symm
              rw [← e9] at hP hD
              clear e9
              have hP : va_P (dC, dI) vwCl (WR a k h0 (fT (fT (fT (fT vi 21 s298) 22 p298) 82 sp298) 89 (nI (fr + 1))) vj (fT (fT (fT vF 53 (upd (upd (vF 53) ((nI fN)).toNatClampNeg (nI (sN + 1))) (nI fr).toNatClampNeg 0)) 54 (upd (vF 54) ((nI fN)).toNatClampNeg 0)) 52 (upd (vF 52) (nI fr).toNatClampNeg (nI dN))) vG) H := hP
              have hD : va_D A (WR a k h0 (fT (fT (fT (fT vi 21 s298) 22 p298) 82 sp298) 89 (nI (fr + 1))) vj (fT (fT (fT vF 53 (upd (upd (vF 53) ((nI fN)).toNatClampNeg (nI (sN + 1))) (nI fr).toNatClampNeg 0)) 54 (upd (vF 54) ((nI fN)).toNatClampNeg 0)) 52 (upd (vF 52) (nI fr).toNatClampNeg (nI dN))) vG) := hD
              refine W.widen (k := 0) (n := 0) (by decide +kernel) (by decide +kernel) ?_
              have e9 : fT (fT (fT (fT (fT vi 21 s298) 22 p298) 82 sp298) 81 (nI pN)) 89 (nI (fr + 1)) = fT (fT (fT (fT vi 21 s298) 22 p298) 82 sp298) 89 (nI (fr + 1)) := by funext q9; by_cases h9_21 : q9 = 21; (subst h9_21; exact ((fT_ne _ _ (Nat.ne_of_beq_eq_false rfl)).trans ((fT_ne _ _ (Nat.ne_of_beq_eq_false rfl)).trans ((fT_ne _ _ (Nat.ne_of_beq_eq_false rfl)).trans ((fT_ne _ _ (Nat.ne_of_beq_eq_false rfl)).trans (fT_eq _ _ _))))).trans (Eq.trans (by first | rfl | assumption | (symm; assumption) | (subst_vars; rfl)) ((fT_ne _ _ (Nat.ne_of_beq_eq_false rfl)).trans ((fT_ne _ _ (Nat.ne_of_beq_eq_false rfl)).trans ((fT_ne _ _ (Nat.ne_of_beq_eq_false rfl)).trans (fT_eq _ _ _)))).symm)); by_cases h9_22 : q9 = 22; (subst h9_22; exact ((fT_ne _ _ (Nat.ne_of_beq_eq_false rfl)).trans ((fT_ne _ _ (Nat.ne_of_beq_eq_false rfl)).trans ((fT_ne _ _ (Nat.ne_of_beq_eq_false rfl)).trans (fT_eq _ _ _)))).trans (Eq.trans (by first | rfl | assumption | (symm; assumption) | (subst_vars; rfl)) ((fT_ne _ _ (Nat.ne_of_beq_eq_false rfl)).trans ((fT_ne _ _ (Nat.ne_of_beq_eq_false rfl)).trans (fT_eq _ _ _))).symm)); by_cases h9_82 : q9 = 82; (subst h9_82; exact ((fT_ne _ _ (Nat.ne_of_beq_eq_false rfl)).trans ((fT_ne _ _ (Nat.ne_of_beq_eq_false rfl)).trans (fT_eq _ _ _))).trans (Eq.trans (by first | rfl | assumption | (symm; assumption) | (subst_vars; rfl)) ((fT_ne _ _ (Nat.ne_of_beq_eq_false rfl)).trans (fT_eq _ _ _)).symm)); by_cases h9_81 : q9 = 81; (subst h9_81; exact ((fT_ne _ _ (Nat.ne_of_beq_eq_false rfl)).trans (fT_eq _ _ _)).trans (Eq.trans (by first | rfl | assumption | (symm; assumption) | (subst_vars; rfl)) ((fT_ne _ _ (Nat.ne_of_beq_eq_false rfl)).trans ((fT_ne _ _ (Nat.ne_of_beq_eq_false rfl)).trans ((fT_ne _ _ (Nat.ne_of_beq_eq_false rfl)).trans (fT_ne _ _ (Nat.ne_of_beq_eq_false rfl))))).symm)); by_cases h9_89 : q9 = 89; (subst h9_89; exact (fT_eq _ _ _).trans (Eq.trans (by first | rfl | assumption | (symm; assumption) | (subst_vars; rfl)) (fT_eq _ _ _).symm)); exact ((fT_ne _ _ h9_89).trans ((fT_ne _ _ h9_81).trans ((fT_ne _ _ h9_82).trans ((fT_ne _ _ h9_22).trans (fT_ne _ _ h9_21))))).trans ((fT_ne _ _ h9_89).trans ((fT_ne _ _ h9_82).trans ((fT_ne _ _ h9_22).trans (fT_ne _ _ h9_21)))).symm
              have hP : va_P (dC, dI) vwCl (WR a k h0 (fT (fT (fT (fT (fT vi 21 s298) 22 p298) 82 sp298) 81 (nI pN)) 89 (nI (fr + 1))) vj (fT (fT (fT vF 53 (upd (upd (vF 53) ((nI fN)).toNatClampNeg (nI (sN + 1))) (nI fr).toNatClampNeg 0)) 54 (upd (vF 54) ((nI fN)).toNatClampNeg 0)) 52 (upd (vF 52) (nI fr).toNatClampNeg (nI dN))) vG) H := by rw [e9]; exact hP
              have hD : va_D A (WR a k h0 (fT (fT (fT (fT (fT vi 21 s298) 22 p298) 82 sp298) 81 (nI pN)) 89 (nI (fr + 1))) vj (fT (fT (fT vF 53 (upd (upd (vF 53) ((nI fN)).toNatClampNeg (nI (sN + 1))) (nI fr).toNatClampNeg 0)) 54 (upd (vF 54) ((nI fN)).toNatClampNeg 0)) 52 (upd (vF 52) (nI fr).toNatClampNeg (nI dN))) vG) := by rw [e9]; exact hD
              clear e9
              have e9 : fT (fT (fT (fT (fT vF 53 (upd (upd (vF 53) ((nI fN)).toNatClampNeg (nI (sN + 1))) (nI fr).toNatClampNeg 0)) 54 (upd (vF 54) ((nI fN)).toNatClampNeg 0)) 49 (vF 49)) 50 (vF 50)) 52 (upd (vF 52) (nI fr).toNatClampNeg (nI dN)) = fT (fT (fT vF 53 (upd (upd (vF 53) ((nI fN)).toNatClampNeg (nI (sN + 1))) (nI fr).toNatClampNeg 0)) 54 (upd (vF 54) ((nI fN)).toNatClampNeg 0)) 52 (upd (vF 52) (nI fr).toNatClampNeg (nI dN)) := by funext q9; by_cases h9_53 : q9 = 53; (subst h9_53; exact ((fT_ne _ _ (Nat.ne_of_beq_eq_false rfl)).trans ((fT_ne _ _ (Nat.ne_of_beq_eq_false rfl)).trans ((fT_ne _ _ (Nat.ne_of_beq_eq_false rfl)).trans ((fT_ne _ _ (Nat.ne_of_beq_eq_false rfl)).trans (fT_eq _ _ _))))).trans (Eq.trans (by first | rfl | assumption | (symm; assumption) | (subst_vars; rfl)) ((fT_ne _ _ (Nat.ne_of_beq_eq_false rfl)).trans ((fT_ne _ _ (Nat.ne_of_beq_eq_false rfl)).trans (fT_eq _ _ _))).symm)); by_cases h9_54 : q9 = 54; (subst h9_54; exact ((fT_ne _ _ (Nat.ne_of_beq_eq_false rfl)).trans ((fT_ne _ _ (Nat.ne_of_beq_eq_false rfl)).trans ((fT_ne _ _ (Nat.ne_of_beq_eq_false rfl)).trans (fT_eq _ _ _)))).trans (Eq.trans (by first | rfl | assumption | (symm; assumption) | (subst_vars; rfl)) ((fT_ne _ _ (Nat.ne_of_beq_eq_false rfl)).trans (fT_eq _ _ _)).symm)); by_cases h9_49 : q9 = 49; (subst h9_49; exact ((fT_ne _ _ (Nat.ne_of_beq_eq_false rfl)).trans ((fT_ne _ _ (Nat.ne_of_beq_eq_false rfl)).trans (fT_eq _ _ _))).trans (Eq.trans (by first | rfl | assumption | (symm; assumption) | (subst_vars; rfl)) ((fT_ne _ _ (Nat.ne_of_beq_eq_false rfl)).trans ((fT_ne _ _ (Nat.ne_of_beq_eq_false rfl)).trans (fT_ne _ _ (Nat.ne_of_beq_eq_false rfl)))).symm)); by_cases h9_50 : q9 = 50; (subst h9_50; exact ((fT_ne _ _ (Nat.ne_of_beq_eq_false rfl)).trans (fT_eq _ _ _)).trans (Eq.trans (by first | rfl | assumption | (symm; assumption) | (subst_vars; rfl)) ((fT_ne _ _ (Nat.ne_of_beq_eq_false rfl)).trans ((fT_ne _ _ (Nat.ne_of_beq_eq_false rfl)).trans (fT_ne _ _ (Nat.ne_of_beq_eq_false rfl)))).symm)); by_cases h9_52 : q9 = 52; (subst h9_52; exact (fT_eq _ _ _).trans (Eq.trans (by first | rfl | assumption | (symm; assumption) | (subst_vars; rfl)) (fT_eq _ _ _).symm)); exact ((fT_ne _ _ h9_52).trans ((fT_ne _ _ h9_50).trans ((fT_ne _ _ h9_49).trans ((fT_ne _ _ h9_54).trans (fT_ne _ _ h9_53))))).trans ((fT_ne _ _ h9_52).trans ((fT_ne _ _ h9_54).trans (fT_ne _ _ h9_53))).symm
              have hP : va_P (dC, dI) vwCl (WR a k h0 (fT (fT (fT (fT (fT vi 21 s298) 22 p298) 82 sp298) 81 (nI pN)) 89 (nI (fr + 1))) vj (fT (fT (fT (fT (fT vF 53 (upd (upd (vF 53) ((nI fN)).toNatClampNeg (nI (sN + 1))) (nI fr).toNatClampNeg 0)) 54 (upd (vF 54) ((nI fN)).toNatClampNeg 0)) 49 (vF 49)) 50 (vF 50)) 52 (upd (vF 52) (nI fr).toNatClampNeg (nI dN))) vG) H := by rw [e9]; exact hP
              have hD : va_D A (WR a k h0 (fT (fT (fT (fT (fT vi 21 s298) 22 p298) 82 sp298) 81 (nI pN)) 89 (nI (fr + 1))) vj (fT (fT (fT (fT (fT vF 53 (upd (upd (vF 53) ((nI fN)).toNatClampNeg (nI (sN + 1))) (nI fr).toNatClampNeg 0)) 54 (upd (vF 54) ((nI fN)).toNatClampNeg 0)) 49 (vF 49)) 50 (vF 50)) 52 (upd (vF 52) (nI fr).toNatClampNeg (nI dN))) vG) := by rw [e9]; exact hD
              clear e9
              exact W.vret hx hb hr (fun t9_ ht hW => ⟨⟨((vF 49), (vF 50), (upd (vF 52) (nI fr).toNatClampNeg (nI dN)), (upd (upd (vF 53) ((nI fN)).toNatClampNeg (nI (sN + 1))) (nI fr).toNatClampNeg 0), (upd (vF 54) ((nI fN)).toNatClampNeg 0), (fr + 1), pN, s298, p298, sp298), rfl, by (try dsimp only); exact ⟨fun v9 h9 => hRw v9 (by omega), f98_0, f98_1, Or.inr (by (obtain rfl : sN = 0 := by omega); (obtain rfl : pN = hN := by omega); (obtain ⟨e31, hdT⟩ := hdN (by omega)); (obtain ⟨hw1, hw2⟩ := hwN.resolve_left (by omega)); (have hq2 := hdT.2.2.2.1); exact StpO.push 1 0 (wt nN - wt dN - 1) hfN hfr1 (fun q hq => by rw [upd_at (by omega), if_neg (by omega)]) (fun _ => by rw [upd_at (by omega), if_pos rfl]; exact nI_0.symm) hdT.2.1 hdT.2.2.1 (by omega) (WtO.n1 hkk hdT.2.2.2.2 (by omega) hdT (fun c h9 => by (have h8 := hw2 c h9); omega)) (by omega)), by omega⟩, by rw [ht]; exact hP, hD⟩, hS.F ht⟩) hS.2.2 dX12_workName_123
        · rintro H locs ls stk ⟨s3, p3, sp3, pq, f54x, hpq, hs30, hs31, hs4, h54, rfl, hP, hD, hS, hl⟩
          refine lv_aload_n hx hb dX12_workName_212 rfl (lv_at hl 0 rfl) ?_
          refine va_get (D := (dC, dI)) (ci := 12) (v := .int s3) (C := RX12) (T := TX12) (N := 163) (fs := fM (vS a (fT (fT (fT (fT vi 21 s3) 22 p3) 82 sp3) 81 (nI pq)) vj)) hx hb hts iwsRX12_workName_in12 hown hK hP 0 rfl rfl 21 (by decide) (hts (.fieldLink RX12 515 "OptimaWorksModel" "stop" "I") (by decide +kernel)) (fun _ h9 => h9) rfl dX12_workName_213 ?_
          refine lv_if_le (tgt := 220) hx hb dX12_workName_216 (by decide) (fun c_216 => ?_) (fun c_216 => ?_)
          · have t_216 : (s3).toInt ≤ 0 := toI_le c_216 rfl (by decide)
            obtain ⟨l4, hl40, hl4, hlk⟩ := hs4.resolve_left (by omega)
            refine lv_aload_n hx hb dX12_workName_220 rfl (lv_at hl 0 rfl) ?_
            refine lv_aload_n hx hb dX12_workName_221 rfl (lv_at hl 0 rfl) ?_
            refine va_get (D := (dC, dI)) (ci := 12) (v := .int (nI pq)) (C := RX12) (T := TX12) (N := 163) (fs := fM (vS a (fT (fT (fT (fT vi 21 s3) 22 p3) 82 sp3) 81 (nI pq)) vj)) hx hb hts iwsRX12_workName_in12 hown hK hP 0 rfl rfl 81 (by decide) (hts (.fieldLink RX12 659 "OptimaWorksModel" "piled" "I") (by decide +kernel)) (fun _ h9 => h9) rfl dX12_workName_222 ?_
            have hFc := allFree hD hS hA
            refine va_callv (va_runV (As := [.int (nI pq)]) (rest := []) ⟨hx, hb, hml, hown, hts⟩ (r_X12_nought l dC dI a k h0 (fT (fT (fT (fT vi 21 s3) 22 p3) 82 sp3) 81 (nI pq)) vj (fT (fT vF 53 (upd (vF 53) ((nI fN)).toNatClampNeg (nI (sN + 1)))) 54 f54x) vG pq (by first | assumption | decide | omega | rfl) H.size) (cwV 1 hts gwsRX12_workName_4 rfl rfl rfl hd_yX12_nought_RX12 (by decide +kernel)) (fz_pre (va_recv hK hP (ci := 12) (q0 := 0) rfl rfl) hP hK hD) rfl rfl hl.1 rfl (lv_room (Nat.le_of_ble_eq_true rfl)) dX12_workName_225 (by decide +kernel)) hS (fun q _ h => hFc q h) hFc (fun u t9_ H locs ht hvm hw9 hB9 hz1 hk1 hS => ?_)
            obtain ⟨f49225, f50225⟩ := u
            try dsimp only at hw9 hB9
            have hP : va_P (dC, dI) vwCl (WR a k h0 (fT (fT (fT (fT vi 21 s3) 22 p3) 82 sp3) 81 (nI pq)) vj (fT (fT (fT (fT vF 53 (upd (vF 53) ((nI fN)).toNatClampNeg (nI (sN + 1)))) 54 f54x) 49 f49225) 50 f50225) vG) H := fz_P ht hB9.1
            have hD : va_D A (WR a k h0 (fT (fT (fT (fT vi 21 s3) 22 p3) 82 sp3) 81 (nI pq)) vj (fT (fT (fT (fT vF 53 (upd (vF 53) ((nI fN)).toNatClampNeg (nI (sN + 1)))) 54 f54x) 49 f49225) 50 f50225) vG) := hB9.2.weaken (fun _ q _ h => hFc q.1 h)
            obtain ⟨f225_0, f225_1, f225_2, f225_3⟩ := hw9
            have f225_2 : ∀ q, (q < 9 * pq ∨ 9 * pq + 9 ≤ q) → f49225 q = (vF 49) q := f225_2
            have f225_3 : ∀ q, (q < 9 * pq ∨ 9 * pq + 9 ≤ q) → f50225 q = (vF 50) q := f225_3
            refine lv_iload_n hx hb dX12_workName_228 rfl (lv_at hl 3 rfl) ?_
            refine lv_if_eq (tgt := 297) hx hb dX12_workName_229 (by decide) (fun c_229 => ?_) (fun c_229 => ?_)
            · have t_229 : (zk).toInt = 0 := toI_eq c_229 rfl (by decide)
              refine lv_aload_n hx hb dX12_workName_297 rfl (lv_at hl 0 rfl) ?_
              refine va_get (D := (dC, dI)) (ci := 12) (v := .ref (a 49)) (C := RX12) (T := TX12) (N := 163) (fs := fM (vS a (fT (fT (fT (fT vi 21 s3) 22 p3) 82 sp3) 81 (nI pq)) vj)) hx hb hts iwsRX12_workName_in12 hown hK hP 0 rfl rfl 78 (by decide) (hts (.fieldLink RX12 170 "OptimaWorksModel" "top" "[I") (by decide +kernel)) (fun _ h9 => h9) rfl dX12_workName_298 ?_
              refine lv_bipush (v := 9) hx hb dX12_workName_301 (by decide) ?_
              refine lv_aload_n hx hb dX12_workName_303 rfl (lv_at hl 0 rfl) ?_
              refine va_get (D := (dC, dI)) (ci := 12) (v := .int (nI pq)) (C := RX12) (T := TX12) (N := 163) (fs := fM (vS a (fT (fT (fT (fT vi 21 s3) 22 p3) 82 sp3) 81 (nI pq)) vj)) hx hb hts iwsRX12_workName_in12 hown hK hP 0 rfl rfl 81 (by decide) (hts (.fieldLink RX12 659 "OptimaWorksModel" "piled" "I") (by decide +kernel)) (fun _ h9 => h9) rfl dX12_workName_304 ?_
              refine lv_imul hx hb dX12_workName_307 ?_
              refine lv_topi (fun y39 hy39 => ?_)
              obtain rfl : (nI (9 * pq)) = y39 := (hy39.trans (pk_mul 9 pq)).symm
              refine lv_iconst (v := 1) hx hb dX12_workName_308 (by decide) ?_
              refine lv_iadd hx hb dX12_workName_309 ?_
              refine lv_topi (fun y40 hy40 => ?_)
              obtain rfl : (nI ((9 * pq) + 1)) = y40 := (hy40.trans (nI_add (9 * pq) 1)).symm
              refine lv_aload_n hx hb dX12_workName_310 rfl (lv_at hl 0 rfl) ?_
              refine va_get (D := (dC, dI)) (ci := 12) (v := .ref (a 27)) (C := RX12) (T := TX12) (N := 163) (fs := fM (vS a (fT (fT (fT (fT vi 21 s3) 22 p3) 82 sp3) 81 (nI pq)) vj)) hx hb hts iwsRX12_workName_in12 hown hK hP 0 rfl rfl 50 (by decide) (hts (.fieldLink RX12 104 "OptimaWorksModel" "varAt" "[I") (by decide +kernel)) (fun _ h9 => h9) rfl dX12_workName_311 ?_
              refine lv_iload hx hb dX12_workName_314 (lv_at hl 4 rfl) ?_
              refine va_iald (cA := k 27) (n := 44) (f := (vF 27)) hx hb hK hP 28 27 (WR_get 27 (by decide)) (TR_get 27 (by decide)) (vp_in_nI (show aN < 44 by omega) (by omega)) dX12_workName_316 ?_
              refine lv_topi (fun y41 hy41 => ?_)
              obtain rfl : ((vF 27) aN) = y41 := (hy41.trans (by rw [nI_clamp (by omega)])).symm
              refine lv_topi (fun y42 hy42 => ?_)
              obtain rfl : (nI atN) = y42 := (hy42.trans (hA3 (by omega))).symm
              refine lv_iadd hx hb dX12_workName_317 ?_
              refine lv_topi (fun y43 hy43 => ?_)
              obtain rfl : (nI (((9 * pq) + 1) + atN)) = y43 := (hy43.trans (nI_add ((9 * pq) + 1) atN)).symm
              refine lv_aload_n hx hb dX12_workName_318 rfl (lv_at hl 0 rfl) ?_
              refine va_get (D := (dC, dI)) (ci := 12) (v := .ref (a 54)) (C := RX12) (T := TX12) (N := 163) (fs := fM (vS a (fT (fT (fT (fT vi 21 s3) 22 p3) 82 sp3) 81 (nI pq)) vj)) hx hb hts iwsRX12_workName_in12 hown hK hP 0 rfl rfl 87 (by decide) (hts (.fieldLink RX12 185 "OptimaWorksModel" "loopA" "[I") (by decide +kernel)) (fun _ h9 => h9) rfl dX12_workName_319 ?_
              refine lv_iload_n hx hb dX12_workName_322 rfl (lv_at hl 1 rfl) ?_
              refine va_iald (cA := k 54) (n := 4300) (f := f54x) hx hb hK hP 55 54 (WR_get 54 (by decide)) (TR_get 54 (by decide)) (vp_in_nI (show fN < 4300 by omega) (by omega)) dX12_workName_323 ?_
              refine lv_topi (fun y44 hy44 => ?_)
              obtain rfl : (f54x fN) = y44 := (hy44.trans (by rw [nI_clamp (by omega)])).symm
              refine lv_topi (fun y45 hy45 => ?_)
              obtain rfl : (nI l4) = y45 := (hy45.trans (hl4)).symm
              refine lv_iadd hx hb dX12_workName_324 ?_
              refine lv_topi (fun y46 hy46 => ?_)
              obtain rfl : (nI ((((9 * pq) + 1) + atN) + l4)) = y46 := (hy46.trans (nI_add (((9 * pq) + 1) + atN) l4)).symm
              refine lv_iconst (v := 1) hx hb dX12_workName_325 (by decide) ?_
              refine va_iast (cA := k 49) (n := 900) (f := f49225) hx hb hK hP hD hS 50 49 (WR_get 49 (by decide)) (TR_get 49 (by decide)) (vp_in_nI (show ((((9 * pq) + 1) + atN) + l4) < 900 by omega) (by omega)) dX12_workName_326 (fun H locs hP hD hS => ?_)
              have e9 : fT (fT (fT (fT vF 53 (upd (vF 53) ((nI fN)).toNatClampNeg (nI (sN + 1)))) 54 f54x) 49 (upd f49225 ((nI ((((9 * pq) + 1) + atN) + l4))).toNatClampNeg 1)) 50 f50225 = fT (fT (fT (fT (fT vF 53 (upd (vF 53) ((nI fN)).toNatClampNeg (nI (sN + 1)))) 54 f54x) 49 f49225) 50 f50225) 49 (upd f49225 ((nI ((((9 * pq) + 1) + atN) + l4))).toNatClampNeg 1) := ((fT_sw _ _ _ (Nat.ne_of_beq_eq_false rfl)).trans (congrArg (fun g9 => fT g9 50 f50225) (fT_sm _ _ _ _))).symm
              have hP : va_P (dC, dI) vwCl (WR a k h0 (fT (fT (fT (fT vi 21 s3) 22 p3) 82 sp3) 81 (nI pq)) vj (fT (fT (fT (fT vF 53 (upd (vF 53) ((nI fN)).toNatClampNeg (nI (sN + 1)))) 54 f54x) 49 (upd f49225 ((nI ((((9 * pq) + 1) + atN) + l4))).toNatClampNeg 1)) 50 f50225) vG) H := by rw [e9, ← WR_F 49 (by decide) _ rfl]; exact hP
              have hD : va_D A (WR a k h0 (fT (fT (fT (fT vi 21 s3) 22 p3) 82 sp3) 81 (nI pq)) vj (fT (fT (fT (fT vF 53 (upd (vF 53) ((nI fN)).toNatClampNeg (nI (sN + 1)))) 54 f54x) 49 (upd f49225 ((nI ((((9 * pq) + 1) + atN) + l4))).toNatClampNeg 1)) 50 f50225) vG) := by rw [e9, ← WR_F 49 (by decide) _ rfl]; exact hD
              clear e9
              refine lv_aload_n hx hb dX12_workName_327 rfl (lv_at hl 0 rfl) ?_
              refine lv_dup hx hb dX12_workName_328 rfl ?_
              refine va_get (D := (dC, dI)) (ci := 12) (v := .int (nI pq)) (C := RX12) (T := TX12) (N := 163) (fs := fM (vS a (fT (fT (fT (fT vi 21 s3) 22 p3) 82 sp3) 81 (nI pq)) vj)) hx hb hts iwsRX12_workName_in12 hown hK hP 0 rfl rfl 81 (by decide) (hts (.fieldLink RX12 659 "OptimaWorksModel" "piled" "I") (by decide +kernel)) (fun _ h9 => h9) rfl dX12_workName_329 ?_
              refine lv_iconst (v := 1) hx hb dX12_workName_332 (by decide) ?_
              refine lv_iadd hx hb dX12_workName_333 ?_
              refine lv_topi (fun y47 hy47 => ?_)
              obtain rfl : (nI (pq + 1)) = y47 := (hy47.trans (nI_add pq 1)).symm
              refine va_put (D := (dC, dI)) (ci := 12) (v := .int (nI (pq + 1))) (ty := .int) (C := RX12) (T := TX12) (N := 163) (fs := fM (vS a (fT (fT (fT (fT vi 21 s3) 22 p3) 82 sp3) 81 (nI pq)) vj)) hx hb hts iwsRX12_workName_in12 tyX12 tyX12_ok nmX12 hown hK hP hD hS 0 rfl rfl 81 (by decide) (hts (.fieldLink RX12 659 "OptimaWorksModel" "piled" "I") (by decide +kernel)) (fun _ h9 => h9) rfl (by decide +kernel) rfl rfl (Nat.le_of_ble_eq_true rfl) dX12_workName_334 (fun H locs hP hD hS => ?_)
              have e9 : fT (fT (fT (fT vi 21 s3) 22 p3) 82 sp3) 81 (nI (pq + 1)) = fT (fT (fT (fT (fT vi 21 s3) 22 p3) 82 sp3) 81 (nI pq)) 81 (nI (pq + 1)) := (fT_sm _ _ _ _).symm
              have hP : va_P (dC, dI) vwCl (WR a k h0 (fT (fT (fT (fT vi 21 s3) 22 p3) 82 sp3) 81 (nI (pq + 1))) vj (fT (fT (fT (fT vF 53 (upd (vF 53) ((nI fN)).toNatClampNeg (nI (sN + 1)))) 54 f54x) 49 (upd f49225 ((nI ((((9 * pq) + 1) + atN) + l4))).toNatClampNeg 1)) 50 f50225) vG) H := by rw [e9, ← WR_i 81 _ rfl]; exact hP
              have hD : va_D A (WR a k h0 (fT (fT (fT (fT vi 21 s3) 22 p3) 82 sp3) 81 (nI (pq + 1))) vj (fT (fT (fT (fT vF 53 (upd (vF 53) ((nI fN)).toNatClampNeg (nI (sN + 1)))) 54 f54x) 49 (upd f49225 ((nI ((((9 * pq) + 1) + atN) + l4))).toNatClampNeg 1)) 50 f50225) vG) := by rw [e9, ← WR_i 81 _ rfl]; exact hD
              clear e9
              refine lv_aload_n hx hb dX12_workName_337 rfl (lv_at hl 0 rfl) ?_
              refine lv_dup hx hb dX12_workName_338 rfl ?_
              refine va_get (D := (dC, dI)) (ci := 12) (v := .int (vi 89)) (C := RX12) (T := TX12) (N := 163) (fs := fM (vS a (fT (fT (fT (fT vi 21 s3) 22 p3) 82 sp3) 81 (nI (pq + 1))) vj)) hx hb hts iwsRX12_workName_in12 hown hK hP 0 rfl rfl 89 (by decide) (hts (.fieldLink RX12 647 "OptimaWorksModel" "framed" "I") (by decide +kernel)) (fun _ h9 => h9) rfl dX12_workName_339 ?_
              refine lv_topi (fun y48 hy48 => ?_)
              obtain rfl : (nI fr) = y48 := (hy48.trans (hfr9)).symm
              refine lv_iconst (v := 1) hx hb dX12_workName_342 (by decide) ?_
              refine lv_isub hx hb dX12_workName_343 ?_
              refine lv_topi (fun y49 hy49 => ?_)
              obtain rfl : (nI (fr - 1)) = y49 := (hy49.trans (pk_sub (a := fr) (b := 1) (by omega))).symm
              refine va_put (D := (dC, dI)) (ci := 12) (v := .int (nI (fr - 1))) (ty := .int) (C := RX12) (T := TX12) (N := 163) (fs := fM (vS a (fT (fT (fT (fT vi 21 s3) 22 p3) 82 sp3) 81 (nI (pq + 1))) vj)) hx hb hts iwsRX12_workName_in12 tyX12 tyX12_ok nmX12 hown hK hP hD hS 0 rfl rfl 89 (by decide) (hts (.fieldLink RX12 647 "OptimaWorksModel" "framed" "I") (by decide +kernel)) (fun _ h9 => h9) rfl (by decide +kernel) rfl rfl (Nat.le_of_ble_eq_true rfl) dX12_workName_344 (fun H locs hP hD hS => ?_)
              have hP : va_P (dC, dI) vwCl (WR a k h0 (fT (fT (fT (fT (fT vi 21 s3) 22 p3) 82 sp3) 81 (nI (pq + 1))) 89 (nI (fr - 1))) vj (fT (fT (fT (fT vF 53 (upd (vF 53) ((nI fN)).toNatClampNeg (nI (sN + 1)))) 54 f54x) 49 (upd f49225 ((nI ((((9 * pq) + 1) + atN) + l4))).toNatClampNeg 1)) 50 f50225) vG) H := by rw [← WR_i 89 _ rfl]; exact hP
              have hD : va_D A (WR a k h0 (fT (fT (fT (fT (fT vi 21 s3) 22 p3) 82 sp3) 81 (nI (pq + 1))) 89 (nI (fr - 1))) vj (fT (fT (fT (fT vF 53 (upd (vF 53) ((nI fN)).toNatClampNeg (nI (sN + 1)))) 54 f54x) 49 (upd f49225 ((nI ((((9 * pq) + 1) + atN) + l4))).toNatClampNeg 1)) 50 f50225) vG) := by rw [← WR_i 89 _ rfl]; exact hD
              refine W.widen (k := 0) (n := 0) (by decide +kernel) (by decide +kernel) ?_
              have e9 : fT (fT (fT (fT (fT vF 53 (upd (vF 53) ((nI fN)).toNatClampNeg (nI (sN + 1)))) 54 f54x) 49 (upd f49225 ((nI ((((9 * pq) + 1) + atN) + l4))).toNatClampNeg 1)) 50 f50225) 52 (vF 52) = fT (fT (fT (fT vF 53 (upd (vF 53) ((nI fN)).toNatClampNeg (nI (sN + 1)))) 54 f54x) 49 (upd f49225 ((nI ((((9 * pq) + 1) + atN) + l4))).toNatClampNeg 1)) 50 f50225 := fT_id _ _ ((fT_ne _ _ (Nat.ne_of_beq_eq_false rfl)).trans ((fT_ne _ _ (Nat.ne_of_beq_eq_false rfl)).trans ((fT_ne _ _ (Nat.ne_of_beq_eq_false rfl)).trans (fT_ne _ _ (Nat.ne_of_beq_eq_false rfl)))))
              have hP : va_P (dC, dI) vwCl (WR a k h0 (fT (fT (fT (fT (fT vi 21 s3) 22 p3) 82 sp3) 81 (nI (pq + 1))) 89 (nI (fr - 1))) vj (fT (fT (fT (fT (fT vF 53 (upd (vF 53) ((nI fN)).toNatClampNeg (nI (sN + 1)))) 54 f54x) 49 (upd f49225 ((nI ((((9 * pq) + 1) + atN) + l4))).toNatClampNeg 1)) 50 f50225) 52 (vF 52)) vG) H := by rw [e9]; exact hP
              have hD : va_D A (WR a k h0 (fT (fT (fT (fT (fT vi 21 s3) 22 p3) 82 sp3) 81 (nI (pq + 1))) 89 (nI (fr - 1))) vj (fT (fT (fT (fT (fT vF 53 (upd (vF 53) ((nI fN)).toNatClampNeg (nI (sN + 1)))) 54 f54x) 49 (upd f49225 ((nI ((((9 * pq) + 1) + atN) + l4))).toNatClampNeg 1)) 50 f50225) 52 (vF 52)) vG) := by rw [e9]; exact hD
              clear e9
              exact W.vret hx hb hr (fun t9_ ht hW => ⟨⟨((upd f49225 ((nI ((((9 * pq) + 1) + atN) + l4))).toNatClampNeg 1), f50225, (vF 52), (upd (vF 53) ((nI fN)).toNatClampNeg (nI (sN + 1))), f54x, (fr - 1), (pq + 1), s3, p3, sp3), rfl, by (try dsimp only); exact ⟨fun v9 h9 => RowU.top (by omega) (RowU.nought f225_0 f225_1 (fun q h9 => f225_2 q (Or.inl h9)) (fun q h9 => f225_3 q (Or.inl h9)) (fun v8 h9 => hRw v8 (by omega)) (show v9 ≤ pq by omega)) (by decide), hs30, hs31, Or.inr (StpO.pop hfN hfr1 h54 (by rw [if_pos (by omega)]; omega)), by omega⟩, by rw [ht]; exact hP, hD⟩, hS.F ht⟩) hS.2.2 dX12_workName_347
            · have t_229 : ¬ (zk).toInt = 0 := toI_neq c_229 rfl (by decide)
              refine lv_aload_n hx hb dX12_workName_232 rfl (lv_at hl 0 rfl) ?_
              refine va_get (D := (dC, dI)) (ci := 12) (v := .ref (a 49)) (C := RX12) (T := TX12) (N := 163) (fs := fM (vS a (fT (fT (fT (fT vi 21 s3) 22 p3) 82 sp3) 81 (nI pq)) vj)) hx hb hts iwsRX12_workName_in12 hown hK hP 0 rfl rfl 78 (by decide) (hts (.fieldLink RX12 170 "OptimaWorksModel" "top" "[I") (by decide +kernel)) (fun _ h9 => h9) rfl dX12_workName_233 ?_
              refine lv_bipush (v := 9) hx hb dX12_workName_236 (by decide) ?_
              refine lv_aload_n hx hb dX12_workName_238 rfl (lv_at hl 0 rfl) ?_
              refine va_get (D := (dC, dI)) (ci := 12) (v := .int (nI pq)) (C := RX12) (T := TX12) (N := 163) (fs := fM (vS a (fT (fT (fT (fT vi 21 s3) 22 p3) 82 sp3) 81 (nI pq)) vj)) hx hb hts iwsRX12_workName_in12 hown hK hP 0 rfl rfl 81 (by decide) (hts (.fieldLink RX12 659 "OptimaWorksModel" "piled" "I") (by decide +kernel)) (fun _ h9 => h9) rfl dX12_workName_239 ?_
              refine lv_imul hx hb dX12_workName_242 ?_
              refine lv_topi (fun y50 hy50 => ?_)
              obtain rfl : (nI (9 * pq)) = y50 := (hy50.trans (pk_mul 9 pq)).symm
              refine lv_aload_n hx hb dX12_workName_243 rfl (lv_at hl 0 rfl) ?_
              refine va_get (D := (dC, dI)) (ci := 12) (v := .ref (a 22)) (C := RX12) (T := TX12) (N := 163) (fs := fM (vS a (fT (fT (fT (fT vi 21 s3) 22 p3) 82 sp3) 81 (nI pq)) vj)) hx hb hts iwsRX12_workName_in12 hown hK hP 0 rfl rfl 45 (by decide) (hts (.fieldLink RX12 89 "OptimaWorksModel" "paramTop" "[I") (by decide +kernel)) (fun _ h9 => h9) rfl dX12_workName_244 ?_
              refine lv_aload_n hx hb dX12_workName_247 rfl (lv_at hl 0 rfl) ?_
              refine va_get (D := (dC, dI)) (ci := 12) (v := .ref (a 21)) (C := RX12) (T := TX12) (N := 163) (fs := fM (vS a (fT (fT (fT (fT vi 21 s3) 22 p3) 82 sp3) 81 (nI pq)) vj)) hx hb hts iwsRX12_workName_in12 hown hK hP 0 rfl rfl 44 (by decide) (hts (.fieldLink RX12 86 "OptimaWorksModel" "paramAt" "[I") (by decide +kernel)) (fun _ h9 => h9) rfl dX12_workName_248 ?_
              refine lv_iload hx hb dX12_workName_251 (lv_at hl 4 rfl) ?_
              refine va_iald (cA := k 21) (n := 44) (f := (vF 21)) hx hb hK hP 22 21 (WR_get 21 (by decide)) (TR_get 21 (by decide)) (vp_in_nI (show aN < 44 by omega) (by omega)) dX12_workName_253 ?_
              refine lv_topi (fun y51 hy51 => ?_)
              obtain rfl : ((vF 21) aN) = y51 := (hy51.trans (by rw [nI_clamp (by omega)])).symm
              refine lv_topi (fun y52 hy52 => ?_)
              obtain rfl : (nI atN) = y52 := (hy52.trans (hA2 (by omega))).symm
              refine lv_aload_n hx hb dX12_workName_254 rfl (lv_at hl 0 rfl) ?_
              refine va_get (D := (dC, dI)) (ci := 12) (v := .ref (a 54)) (C := RX12) (T := TX12) (N := 163) (fs := fM (vS a (fT (fT (fT (fT vi 21 s3) 22 p3) 82 sp3) 81 (nI pq)) vj)) hx hb hts iwsRX12_workName_in12 hown hK hP 0 rfl rfl 87 (by decide) (hts (.fieldLink RX12 185 "OptimaWorksModel" "loopA" "[I") (by decide +kernel)) (fun _ h9 => h9) rfl dX12_workName_255 ?_
              refine lv_iload_n hx hb dX12_workName_258 rfl (lv_at hl 1 rfl) ?_
              refine va_iald (cA := k 54) (n := 4300) (f := f54x) hx hb hK hP 55 54 (WR_get 54 (by decide)) (TR_get 54 (by decide)) (vp_in_nI (show fN < 4300 by omega) (by omega)) dX12_workName_259 ?_
              refine lv_topi (fun y53 hy53 => ?_)
              obtain rfl : (f54x fN) = y53 := (hy53.trans (by rw [nI_clamp (by omega)])).symm
              refine lv_topi (fun y54 hy54 => ?_)
              obtain rfl : (nI l4) = y54 := (hy54.trans (hl4)).symm
              refine lv_iadd hx hb dX12_workName_260 ?_
              refine lv_topi (fun y55 hy55 => ?_)
              obtain rfl : (nI (atN + l4)) = y55 := (hy55.trans (nI_add atN l4)).symm
              refine va_iald (cA := k 22) (n := 6400) (f := (vF 22)) hx hb hK hP 23 22 (WR_get 22 (by decide)) (TR_get 22 (by decide)) (vp_in_nI (show (atN + l4) < 6400 by omega) (by omega)) dX12_workName_261 ?_
              refine lv_topi (fun y56 hy56 => ?_)
              obtain rfl : ((vF 22) (atN + l4)) = y56 := (hy56.trans (by rw [nI_clamp (by omega)])).symm
              have hp9 := hPt.name hmem hlk (by omega)
              refine va_iast (cA := k 49) (n := 900) (f := f49225) hx hb hK hP hD hS 50 49 (WR_get 49 (by decide)) (TR_get 49 (by decide)) (vp_in_nI (show (9 * pq) < 900 by omega) (by omega)) dX12_workName_262 (fun H locs hP hD hS => ?_)
              have e9 : fT (fT (fT (fT vF 53 (upd (vF 53) ((nI fN)).toNatClampNeg (nI (sN + 1)))) 54 f54x) 49 (upd f49225 ((nI (9 * pq))).toNatClampNeg ((vF 22) (atN + l4)))) 50 f50225 = fT (fT (fT (fT (fT vF 53 (upd (vF 53) ((nI fN)).toNatClampNeg (nI (sN + 1)))) 54 f54x) 49 f49225) 50 f50225) 49 (upd f49225 ((nI (9 * pq))).toNatClampNeg ((vF 22) (atN + l4))) := ((fT_sw _ _ _ (Nat.ne_of_beq_eq_false rfl)).trans (congrArg (fun g9 => fT g9 50 f50225) (fT_sm _ _ _ _))).symm
              have hP : va_P (dC, dI) vwCl (WR a k h0 (fT (fT (fT (fT vi 21 s3) 22 p3) 82 sp3) 81 (nI pq)) vj (fT (fT (fT (fT vF 53 (upd (vF 53) ((nI fN)).toNatClampNeg (nI (sN + 1)))) 54 f54x) 49 (upd f49225 ((nI (9 * pq))).toNatClampNeg ((vF 22) (atN + l4)))) 50 f50225) vG) H := by rw [e9, ← WR_F 49 (by decide) _ rfl]; exact hP
              have hD : va_D A (WR a k h0 (fT (fT (fT (fT vi 21 s3) 22 p3) 82 sp3) 81 (nI pq)) vj (fT (fT (fT (fT vF 53 (upd (vF 53) ((nI fN)).toNatClampNeg (nI (sN + 1)))) 54 f54x) 49 (upd f49225 ((nI (9 * pq))).toNatClampNeg ((vF 22) (atN + l4)))) 50 f50225) vG) := by rw [e9, ← WR_F 49 (by decide) _ rfl]; exact hD
              clear e9
              refine lv_aload_n hx hb dX12_workName_263 rfl (lv_at hl 0 rfl) ?_
              refine va_get (D := (dC, dI)) (ci := 12) (v := .ref (a 50)) (C := RX12) (T := TX12) (N := 163) (fs := fM (vS a (fT (fT (fT (fT vi 21 s3) 22 p3) 82 sp3) 81 (nI pq)) vj)) hx hb hts iwsRX12_workName_in12 hown hK hP 0 rfl rfl 79 (by decide) (hts (.fieldLink RX12 173 "OptimaWorksModel" "under" "[I") (by decide +kernel)) (fun _ h9 => h9) rfl dX12_workName_264 ?_
              refine lv_bipush (v := 9) hx hb dX12_workName_267 (by decide) ?_
              refine lv_aload_n hx hb dX12_workName_269 rfl (lv_at hl 0 rfl) ?_
              refine va_get (D := (dC, dI)) (ci := 12) (v := .int (nI pq)) (C := RX12) (T := TX12) (N := 163) (fs := fM (vS a (fT (fT (fT (fT vi 21 s3) 22 p3) 82 sp3) 81 (nI pq)) vj)) hx hb hts iwsRX12_workName_in12 hown hK hP 0 rfl rfl 81 (by decide) (hts (.fieldLink RX12 659 "OptimaWorksModel" "piled" "I") (by decide +kernel)) (fun _ h9 => h9) rfl dX12_workName_270 ?_
              refine lv_imul hx hb dX12_workName_273 ?_
              refine lv_topi (fun y57 hy57 => ?_)
              obtain rfl : (nI (9 * pq)) = y57 := (hy57.trans (pk_mul 9 pq)).symm
              refine lv_aload_n hx hb dX12_workName_274 rfl (lv_at hl 0 rfl) ?_
              refine va_get (D := (dC, dI)) (ci := 12) (v := .ref (a 23)) (C := RX12) (T := TX12) (N := 163) (fs := fM (vS a (fT (fT (fT (fT vi 21 s3) 22 p3) 82 sp3) 81 (nI pq)) vj)) hx hb hts iwsRX12_workName_in12 hown hK hP 0 rfl rfl 46 (by decide) (hts (.fieldLink RX12 92 "OptimaWorksModel" "paramUnder" "[I") (by decide +kernel)) (fun _ h9 => h9) rfl dX12_workName_275 ?_
              refine lv_aload_n hx hb dX12_workName_278 rfl (lv_at hl 0 rfl) ?_
              refine va_get (D := (dC, dI)) (ci := 12) (v := .ref (a 21)) (C := RX12) (T := TX12) (N := 163) (fs := fM (vS a (fT (fT (fT (fT vi 21 s3) 22 p3) 82 sp3) 81 (nI pq)) vj)) hx hb hts iwsRX12_workName_in12 hown hK hP 0 rfl rfl 44 (by decide) (hts (.fieldLink RX12 86 "OptimaWorksModel" "paramAt" "[I") (by decide +kernel)) (fun _ h9 => h9) rfl dX12_workName_279 ?_
              refine lv_iload hx hb dX12_workName_282 (lv_at hl 4 rfl) ?_
              refine va_iald (cA := k 21) (n := 44) (f := (vF 21)) hx hb hK hP 22 21 (WR_get 21 (by decide)) (TR_get 21 (by decide)) (vp_in_nI (show aN < 44 by omega) (by omega)) dX12_workName_284 ?_
              refine lv_topi (fun y58 hy58 => ?_)
              obtain rfl : ((vF 21) aN) = y58 := (hy58.trans (by rw [nI_clamp (by omega)])).symm
              refine lv_topi (fun y59 hy59 => ?_)
              obtain rfl : (nI atN) = y59 := (hy59.trans (hA2 (by omega))).symm
              refine lv_aload_n hx hb dX12_workName_285 rfl (lv_at hl 0 rfl) ?_
              refine va_get (D := (dC, dI)) (ci := 12) (v := .ref (a 54)) (C := RX12) (T := TX12) (N := 163) (fs := fM (vS a (fT (fT (fT (fT vi 21 s3) 22 p3) 82 sp3) 81 (nI pq)) vj)) hx hb hts iwsRX12_workName_in12 hown hK hP 0 rfl rfl 87 (by decide) (hts (.fieldLink RX12 185 "OptimaWorksModel" "loopA" "[I") (by decide +kernel)) (fun _ h9 => h9) rfl dX12_workName_286 ?_
              refine lv_iload_n hx hb dX12_workName_289 rfl (lv_at hl 1 rfl) ?_
              refine va_iald (cA := k 54) (n := 4300) (f := f54x) hx hb hK hP 55 54 (WR_get 54 (by decide)) (TR_get 54 (by decide)) (vp_in_nI (show fN < 4300 by omega) (by omega)) dX12_workName_290 ?_
              refine lv_topi (fun y60 hy60 => ?_)
              obtain rfl : (f54x fN) = y60 := (hy60.trans (by rw [nI_clamp (by omega)])).symm
              refine lv_topi (fun y61 hy61 => ?_)
              obtain rfl : (nI l4) = y61 := (hy61.trans (hl4)).symm
              refine lv_iadd hx hb dX12_workName_291 ?_
              refine lv_topi (fun y62 hy62 => ?_)
              obtain rfl : (nI (atN + l4)) = y62 := (hy62.trans (nI_add atN l4)).symm
              refine va_iald (cA := k 23) (n := 6400) (f := (vF 23)) hx hb hK hP 24 23 (WR_get 23 (by decide)) (TR_get 23 (by decide)) (vp_in_nI (show (atN + l4) < 6400 by omega) (by omega)) dX12_workName_292 ?_
              refine lv_topi (fun y63 hy63 => ?_)
              obtain rfl : ((vF 23) (atN + l4)) = y63 := (hy63.trans (by rw [nI_clamp (by omega)])).symm
              refine va_iast (cA := k 50) (n := 900) (f := f50225) hx hb hK hP hD hS 51 50 (WR_get 50 (by decide)) (TR_get 50 (by decide)) (vp_in_nI (show (9 * pq) < 900 by omega) (by omega)) dX12_workName_293 (fun H locs hP hD hS => ?_)
              have e9 : fT (fT (fT (fT vF 53 (upd (vF 53) ((nI fN)).toNatClampNeg (nI (sN + 1)))) 54 f54x) 49 (upd f49225 ((nI (9 * pq))).toNatClampNeg ((vF 22) (atN + l4)))) 50 (upd f50225 ((nI (9 * pq))).toNatClampNeg ((vF 23) (atN + l4))) = fT (fT (fT (fT (fT vF 53 (upd (vF 53) ((nI fN)).toNatClampNeg (nI (sN + 1)))) 54 f54x) 49 (upd f49225 ((nI (9 * pq))).toNatClampNeg ((vF 22) (atN + l4)))) 50 f50225) 50 (upd f50225 ((nI (9 * pq))).toNatClampNeg ((vF 23) (atN + l4))) := (fT_sm _ _ _ _).symm
              have hP : va_P (dC, dI) vwCl (WR a k h0 (fT (fT (fT (fT vi 21 s3) 22 p3) 82 sp3) 81 (nI pq)) vj (fT (fT (fT (fT vF 53 (upd (vF 53) ((nI fN)).toNatClampNeg (nI (sN + 1)))) 54 f54x) 49 (upd f49225 ((nI (9 * pq))).toNatClampNeg ((vF 22) (atN + l4)))) 50 (upd f50225 ((nI (9 * pq))).toNatClampNeg ((vF 23) (atN + l4)))) vG) H := by rw [e9, ← WR_F 50 (by decide) _ rfl]; exact hP
              have hD : va_D A (WR a k h0 (fT (fT (fT (fT vi 21 s3) 22 p3) 82 sp3) 81 (nI pq)) vj (fT (fT (fT (fT vF 53 (upd (vF 53) ((nI fN)).toNatClampNeg (nI (sN + 1)))) 54 f54x) 49 (upd f49225 ((nI (9 * pq))).toNatClampNeg ((vF 22) (atN + l4)))) 50 (upd f50225 ((nI (9 * pq))).toNatClampNeg ((vF 23) (atN + l4)))) vG) := by rw [e9, ← WR_F 50 (by decide) _ rfl]; exact hD
              clear e9
              refine lv_goto (tgt := 327) hx hb dX12_workName_294 (by decide) ?_
              refine lv_aload_n hx hb dX12_workName_327 rfl (lv_at hl 0 rfl) ?_
              refine lv_dup hx hb dX12_workName_328 rfl ?_
              refine va_get (D := (dC, dI)) (ci := 12) (v := .int (nI pq)) (C := RX12) (T := TX12) (N := 163) (fs := fM (vS a (fT (fT (fT (fT vi 21 s3) 22 p3) 82 sp3) 81 (nI pq)) vj)) hx hb hts iwsRX12_workName_in12 hown hK hP 0 rfl rfl 81 (by decide) (hts (.fieldLink RX12 659 "OptimaWorksModel" "piled" "I") (by decide +kernel)) (fun _ h9 => h9) rfl dX12_workName_329 ?_
              refine lv_iconst (v := 1) hx hb dX12_workName_332 (by decide) ?_
              refine lv_iadd hx hb dX12_workName_333 ?_
              refine lv_topi (fun y64 hy64 => ?_)
              obtain rfl : (nI (pq + 1)) = y64 := (hy64.trans (nI_add pq 1)).symm
              refine va_put (D := (dC, dI)) (ci := 12) (v := .int (nI (pq + 1))) (ty := .int) (C := RX12) (T := TX12) (N := 163) (fs := fM (vS a (fT (fT (fT (fT vi 21 s3) 22 p3) 82 sp3) 81 (nI pq)) vj)) hx hb hts iwsRX12_workName_in12 tyX12 tyX12_ok nmX12 hown hK hP hD hS 0 rfl rfl 81 (by decide) (hts (.fieldLink RX12 659 "OptimaWorksModel" "piled" "I") (by decide +kernel)) (fun _ h9 => h9) rfl (by decide +kernel) rfl rfl (Nat.le_of_ble_eq_true rfl) dX12_workName_334 (fun H locs hP hD hS => ?_)
              have e9 : fT (fT (fT (fT vi 21 s3) 22 p3) 82 sp3) 81 (nI (pq + 1)) = fT (fT (fT (fT (fT vi 21 s3) 22 p3) 82 sp3) 81 (nI pq)) 81 (nI (pq + 1)) := (fT_sm _ _ _ _).symm
              have hP : va_P (dC, dI) vwCl (WR a k h0 (fT (fT (fT (fT vi 21 s3) 22 p3) 82 sp3) 81 (nI (pq + 1))) vj (fT (fT (fT (fT vF 53 (upd (vF 53) ((nI fN)).toNatClampNeg (nI (sN + 1)))) 54 f54x) 49 (upd f49225 ((nI (9 * pq))).toNatClampNeg ((vF 22) (atN + l4)))) 50 (upd f50225 ((nI (9 * pq))).toNatClampNeg ((vF 23) (atN + l4)))) vG) H := by rw [e9, ← WR_i 81 _ rfl]; exact hP
              have hD : va_D A (WR a k h0 (fT (fT (fT (fT vi 21 s3) 22 p3) 82 sp3) 81 (nI (pq + 1))) vj (fT (fT (fT (fT vF 53 (upd (vF 53) ((nI fN)).toNatClampNeg (nI (sN + 1)))) 54 f54x) 49 (upd f49225 ((nI (9 * pq))).toNatClampNeg ((vF 22) (atN + l4)))) 50 (upd f50225 ((nI (9 * pq))).toNatClampNeg ((vF 23) (atN + l4)))) vG) := by rw [e9, ← WR_i 81 _ rfl]; exact hD
              clear e9
              refine lv_aload_n hx hb dX12_workName_337 rfl (lv_at hl 0 rfl) ?_
              refine lv_dup hx hb dX12_workName_338 rfl ?_
              refine va_get (D := (dC, dI)) (ci := 12) (v := .int (vi 89)) (C := RX12) (T := TX12) (N := 163) (fs := fM (vS a (fT (fT (fT (fT vi 21 s3) 22 p3) 82 sp3) 81 (nI (pq + 1))) vj)) hx hb hts iwsRX12_workName_in12 hown hK hP 0 rfl rfl 89 (by decide) (hts (.fieldLink RX12 647 "OptimaWorksModel" "framed" "I") (by decide +kernel)) (fun _ h9 => h9) rfl dX12_workName_339 ?_
              refine lv_topi (fun y65 hy65 => ?_)
              obtain rfl : (nI fr) = y65 := (hy65.trans (hfr9)).symm
              refine lv_iconst (v := 1) hx hb dX12_workName_342 (by decide) ?_
              refine lv_isub hx hb dX12_workName_343 ?_
              refine lv_topi (fun y66 hy66 => ?_)
              obtain rfl : (nI (fr - 1)) = y66 := (hy66.trans (pk_sub (a := fr) (b := 1) (by omega))).symm
              refine va_put (D := (dC, dI)) (ci := 12) (v := .int (nI (fr - 1))) (ty := .int) (C := RX12) (T := TX12) (N := 163) (fs := fM (vS a (fT (fT (fT (fT vi 21 s3) 22 p3) 82 sp3) 81 (nI (pq + 1))) vj)) hx hb hts iwsRX12_workName_in12 tyX12 tyX12_ok nmX12 hown hK hP hD hS 0 rfl rfl 89 (by decide) (hts (.fieldLink RX12 647 "OptimaWorksModel" "framed" "I") (by decide +kernel)) (fun _ h9 => h9) rfl (by decide +kernel) rfl rfl (Nat.le_of_ble_eq_true rfl) dX12_workName_344 (fun H locs hP hD hS => ?_)
              have hP : va_P (dC, dI) vwCl (WR a k h0 (fT (fT (fT (fT (fT vi 21 s3) 22 p3) 82 sp3) 81 (nI (pq + 1))) 89 (nI (fr - 1))) vj (fT (fT (fT (fT vF 53 (upd (vF 53) ((nI fN)).toNatClampNeg (nI (sN + 1)))) 54 f54x) 49 (upd f49225 ((nI (9 * pq))).toNatClampNeg ((vF 22) (atN + l4)))) 50 (upd f50225 ((nI (9 * pq))).toNatClampNeg ((vF 23) (atN + l4)))) vG) H := by rw [← WR_i 89 _ rfl]; exact hP
              have hD : va_D A (WR a k h0 (fT (fT (fT (fT (fT vi 21 s3) 22 p3) 82 sp3) 81 (nI (pq + 1))) 89 (nI (fr - 1))) vj (fT (fT (fT (fT vF 53 (upd (vF 53) ((nI fN)).toNatClampNeg (nI (sN + 1)))) 54 f54x) 49 (upd f49225 ((nI (9 * pq))).toNatClampNeg ((vF 22) (atN + l4)))) 50 (upd f50225 ((nI (9 * pq))).toNatClampNeg ((vF 23) (atN + l4)))) vG) := by rw [← WR_i 89 _ rfl]; exact hD
              refine W.widen (k := 0) (n := 0) (by decide +kernel) (by decide +kernel) ?_
              have e9 : fT (fT (fT (fT (fT vF 53 (upd (vF 53) ((nI fN)).toNatClampNeg (nI (sN + 1)))) 54 f54x) 49 (upd f49225 ((nI (9 * pq))).toNatClampNeg ((vF 22) (atN + l4)))) 50 (upd f50225 ((nI (9 * pq))).toNatClampNeg ((vF 23) (atN + l4)))) 52 (vF 52) = fT (fT (fT (fT vF 53 (upd (vF 53) ((nI fN)).toNatClampNeg (nI (sN + 1)))) 54 f54x) 49 (upd f49225 ((nI (9 * pq))).toNatClampNeg ((vF 22) (atN + l4)))) 50 (upd f50225 ((nI (9 * pq))).toNatClampNeg ((vF 23) (atN + l4))) := fT_id _ _ ((fT_ne _ _ (Nat.ne_of_beq_eq_false rfl)).trans ((fT_ne _ _ (Nat.ne_of_beq_eq_false rfl)).trans ((fT_ne _ _ (Nat.ne_of_beq_eq_false rfl)).trans (fT_ne _ _ (Nat.ne_of_beq_eq_false rfl)))))
              have hP : va_P (dC, dI) vwCl (WR a k h0 (fT (fT (fT (fT (fT vi 21 s3) 22 p3) 82 sp3) 81 (nI (pq + 1))) 89 (nI (fr - 1))) vj (fT (fT (fT (fT (fT vF 53 (upd (vF 53) ((nI fN)).toNatClampNeg (nI (sN + 1)))) 54 f54x) 49 (upd f49225 ((nI (9 * pq))).toNatClampNeg ((vF 22) (atN + l4)))) 50 (upd f50225 ((nI (9 * pq))).toNatClampNeg ((vF 23) (atN + l4)))) 52 (vF 52)) vG) H := by rw [e9]; exact hP
              have hD : va_D A (WR a k h0 (fT (fT (fT (fT (fT vi 21 s3) 22 p3) 82 sp3) 81 (nI (pq + 1))) 89 (nI (fr - 1))) vj (fT (fT (fT (fT (fT vF 53 (upd (vF 53) ((nI fN)).toNatClampNeg (nI (sN + 1)))) 54 f54x) 49 (upd f49225 ((nI (9 * pq))).toNatClampNeg ((vF 22) (atN + l4)))) 50 (upd f50225 ((nI (9 * pq))).toNatClampNeg ((vF 23) (atN + l4)))) 52 (vF 52)) vG) := by rw [e9]; exact hD
              clear e9
              exact W.vret hx hb hr (fun t9_ ht hW => ⟨⟨((upd f49225 ((nI (9 * pq))).toNatClampNeg ((vF 22) (atN + l4))), (upd f50225 ((nI (9 * pq))).toNatClampNeg ((vF 23) (atN + l4))), (vF 52), (upd (vF 53) ((nI fN)).toNatClampNeg (nI (sN + 1))), f54x, (fr - 1), (pq + 1), s3, p3, sp3), rfl, by (try dsimp only); exact ⟨fun v9 h9 => RowU.under (by omega) (RowU.top (by omega) (RowU.nought f225_0 f225_1 (fun q h9 => f225_2 q (Or.inl h9)) (fun q h9 => f225_3 q (Or.inl h9)) (fun v8 h9 => hRw v8 (by omega)) (show v9 ≤ pq by omega)) ⟨hp9.1, hp9.2.1⟩) hp9.2.2, hs30, hs31, Or.inr (StpO.pop hfN hfr1 h54 (by rw [if_pos (by omega)]; omega)), by omega⟩, by rw [ht]; exact hP, hD⟩, hS.F ht⟩) hS.2.2 dX12_workName_347
          · have t_216 : ¬ (s3).toInt ≤ 0 := toI_nle c_216 rfl (by decide)
            refine W.widen (k := 0) (n := 0) (by decide +kernel) (by decide +kernel) ?_
            have e9 : fT (fT (fT (fT (fT vi 21 s3) 22 p3) 82 sp3) 81 (nI pq)) 89 (nI fr) = fT (fT (fT (fT vi 21 s3) 22 p3) 82 sp3) 81 (nI pq) := by funext q9; by_cases h9_21 : q9 = 21; (subst h9_21; exact ((fT_ne _ _ (Nat.ne_of_beq_eq_false rfl)).trans ((fT_ne _ _ (Nat.ne_of_beq_eq_false rfl)).trans ((fT_ne _ _ (Nat.ne_of_beq_eq_false rfl)).trans ((fT_ne _ _ (Nat.ne_of_beq_eq_false rfl)).trans (fT_eq _ _ _))))).trans (Eq.trans (by first | rfl | assumption | (symm; assumption) | (subst_vars; rfl)) ((fT_ne _ _ (Nat.ne_of_beq_eq_false rfl)).trans ((fT_ne _ _ (Nat.ne_of_beq_eq_false rfl)).trans ((fT_ne _ _ (Nat.ne_of_beq_eq_false rfl)).trans (fT_eq _ _ _)))).symm)); by_cases h9_22 : q9 = 22; (subst h9_22; exact ((fT_ne _ _ (Nat.ne_of_beq_eq_false rfl)).trans ((fT_ne _ _ (Nat.ne_of_beq_eq_false rfl)).trans ((fT_ne _ _ (Nat.ne_of_beq_eq_false rfl)).trans (fT_eq _ _ _)))).trans (Eq.trans (by first | rfl | assumption | (symm; assumption) | (subst_vars; rfl)) ((fT_ne _ _ (Nat.ne_of_beq_eq_false rfl)).trans ((fT_ne _ _ (Nat.ne_of_beq_eq_false rfl)).trans (fT_eq _ _ _))).symm)); by_cases h9_82 : q9 = 82; (subst h9_82; exact ((fT_ne _ _ (Nat.ne_of_beq_eq_false rfl)).trans ((fT_ne _ _ (Nat.ne_of_beq_eq_false rfl)).trans (fT_eq _ _ _))).trans (Eq.trans (by first | rfl | assumption | (symm; assumption) | (subst_vars; rfl)) ((fT_ne _ _ (Nat.ne_of_beq_eq_false rfl)).trans (fT_eq _ _ _)).symm)); by_cases h9_81 : q9 = 81; (subst h9_81; exact ((fT_ne _ _ (Nat.ne_of_beq_eq_false rfl)).trans (fT_eq _ _ _)).trans (Eq.trans (by first | rfl | assumption | (symm; assumption) | (subst_vars; rfl)) (fT_eq _ _ _).symm)); by_cases h9_89 : q9 = 89; (subst h9_89; exact (fT_eq _ _ _).trans (Eq.trans (by first | rfl | assumption | (symm; assumption) | (subst_vars; rfl)) ((fT_ne _ _ (Nat.ne_of_beq_eq_false rfl)).trans ((fT_ne _ _ (Nat.ne_of_beq_eq_false rfl)).trans ((fT_ne _ _ (Nat.ne_of_beq_eq_false rfl)).trans (fT_ne _ _ (Nat.ne_of_beq_eq_false rfl))))).symm)); exact ((fT_ne _ _ h9_89).trans ((fT_ne _ _ h9_81).trans ((fT_ne _ _ h9_82).trans ((fT_ne _ _ h9_22).trans (fT_ne _ _ h9_21))))).trans ((fT_ne _ _ h9_81).trans ((fT_ne _ _ h9_82).trans ((fT_ne _ _ h9_22).trans (fT_ne _ _ h9_21)))).symm
            have hP : va_P (dC, dI) vwCl (WR a k h0 (fT (fT (fT (fT (fT vi 21 s3) 22 p3) 82 sp3) 81 (nI pq)) 89 (nI fr)) vj (fT (fT vF 53 (upd (vF 53) ((nI fN)).toNatClampNeg (nI (sN + 1)))) 54 f54x) vG) H := by rw [e9]; exact hP
            have hD : va_D A (WR a k h0 (fT (fT (fT (fT (fT vi 21 s3) 22 p3) 82 sp3) 81 (nI pq)) 89 (nI fr)) vj (fT (fT vF 53 (upd (vF 53) ((nI fN)).toNatClampNeg (nI (sN + 1)))) 54 f54x) vG) := by rw [e9]; exact hD
            clear e9
            have e9 : fT (fT (fT (fT (fT vF 53 (upd (vF 53) ((nI fN)).toNatClampNeg (nI (sN + 1)))) 54 f54x) 49 (vF 49)) 50 (vF 50)) 52 (vF 52) = fT (fT vF 53 (upd (vF 53) ((nI fN)).toNatClampNeg (nI (sN + 1)))) 54 f54x := (fT_id _ _ ((fT_ne _ _ (Nat.ne_of_beq_eq_false rfl)).trans ((fT_ne _ _ (Nat.ne_of_beq_eq_false rfl)).trans ((fT_ne _ _ (Nat.ne_of_beq_eq_false rfl)).trans (fT_ne _ _ (Nat.ne_of_beq_eq_false rfl)))))).trans ((fT_id _ _ ((fT_ne _ _ (Nat.ne_of_beq_eq_false rfl)).trans ((fT_ne _ _ (Nat.ne_of_beq_eq_false rfl)).trans (fT_ne _ _ (Nat.ne_of_beq_eq_false rfl))))).trans (fT_id _ _ ((fT_ne _ _ (Nat.ne_of_beq_eq_false rfl)).trans (fT_ne _ _ (Nat.ne_of_beq_eq_false rfl)))))
            have hP : va_P (dC, dI) vwCl (WR a k h0 (fT (fT (fT (fT (fT vi 21 s3) 22 p3) 82 sp3) 81 (nI pq)) 89 (nI fr)) vj (fT (fT (fT (fT (fT vF 53 (upd (vF 53) ((nI fN)).toNatClampNeg (nI (sN + 1)))) 54 f54x) 49 (vF 49)) 50 (vF 50)) 52 (vF 52)) vG) H := by rw [e9]; exact hP
            have hD : va_D A (WR a k h0 (fT (fT (fT (fT (fT vi 21 s3) 22 p3) 82 sp3) 81 (nI pq)) 89 (nI fr)) vj (fT (fT (fT (fT (fT vF 53 (upd (vF 53) ((nI fN)).toNatClampNeg (nI (sN + 1)))) 54 f54x) 49 (vF 49)) 50 (vF 50)) 52 (vF 52)) vG) := by rw [e9]; exact hD
            clear e9
            exact W.vret hx hb hr (fun t9_ ht hW => ⟨⟨((vF 49), (vF 50), (vF 52), (upd (vF 53) ((nI fN)).toNatClampNeg (nI (sN + 1))), f54x, fr, pq, s3, p3, sp3), rfl, by (try dsimp only); exact ⟨fun v9 h9 => hRw v9 (by omega), hs30, Or.inr (by omega), Or.inl (by omega), by omega⟩, by rw [ht]; exact hP, hD⟩, hS.F ht⟩) hS.2.2 dX12_workName_219

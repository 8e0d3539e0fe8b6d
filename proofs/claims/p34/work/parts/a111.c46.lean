theorem hd_yX12_push_RX12 : yX12_push.cls = RX12 ∧ yX12_push.cls ≠ "java/lang/invoke/MethodHandle" ∧ yX12_push.cls ≠ "java/lang/invoke/VarHandle" ∧ (parseMethodDescriptor yX12_push.desc).map (fun d => d.parameters.length) = some 3 := by decide +kernel
theorem hd_yX12_relax_RX12 : yX12_relax.cls = RX12 ∧ yX12_relax.cls ≠ "java/lang/invoke/MethodHandle" ∧ yX12_relax.cls ≠ "java/lang/invoke/VarHandle" ∧ (parseMethodDescriptor yX12_relax.desc).map (fun d => d.parameters.length) = some 4 := by decide +kernel
theorem dX12_relax_0 : decode cX12_relax 0 = .ok (.aload_n 0, 1) := dk_42 (by decide +kernel)
theorem dX12_relax_1 : decode cX12_relax 1 = .ok (.getfield 327, 3) := dk_180 (by decide +kernel)
theorem dX12_relax_4 : decode cX12_relax 4 = .ok (.iload_n 1, 1) := dk_27 (by decide +kernel)
theorem dX12_relax_5 : decode cX12_relax 5 = .ok (.iaload, 1) := dk_46 (by decide +kernel)
theorem dX12_relax_6 : decode cX12_relax 6 = .ok (.ldc_w 1072, 3) := dk_19 (by decide +kernel)
theorem dX12_relax_9 : decode cX12_relax 9 = .ok (.if_icmp .eq 20, 3) := dk_159 (by decide +kernel)
theorem dX12_relax_12 : decode cX12_relax 12 = .ok (.aload_n 0, 1) := dk_42 (by decide +kernel)
theorem dX12_relax_13 : decode cX12_relax 13 = .ok (.getfield 327, 3) := dk_180 (by decide +kernel)
theorem dX12_relax_16 : decode cX12_relax 16 = .ok (.iload_n 1, 1) := dk_27 (by decide +kernel)
theorem dX12_relax_17 : decode cX12_relax 17 = .ok (.iaload, 1) := dk_46 (by decide +kernel)
theorem dX12_relax_18 : decode cX12_relax 18 = .ok (.iload_n 3, 1) := dk_29 (by decide +kernel)
theorem dX12_relax_19 : decode cX12_relax 19 = .ok (.iadd, 1) := dk_96 (by decide +kernel)
theorem dX12_relax_20 : decode cX12_relax 20 = .ok (.aload_n 0, 1) := dk_42 (by decide +kernel)
theorem dX12_relax_21 : decode cX12_relax 21 = .ok (.getfield 327, 3) := dk_180 (by decide +kernel)
theorem dX12_relax_24 : decode cX12_relax 24 = .ok (.iload_n 2, 1) := dk_28 (by decide +kernel)
theorem dX12_relax_25 : decode cX12_relax 25 = .ok (.iaload, 1) := dk_46 (by decide +kernel)
theorem dX12_relax_26 : decode cX12_relax 26 = .ok (.if_icmp .lt 5, 3) := dk_161 (by decide +kernel)
theorem dX12_relax_29 : decode cX12_relax 29 = .ok (.iconst 0, 1) := dk_3 (by decide +kernel)
theorem dX12_relax_30 : decode cX12_relax 30 = .ok (.ireturn, 1) := dk_172 (by decide +kernel)
theorem dX12_relax_31 : decode cX12_relax 31 = .ok (.aload_n 0, 1) := dk_42 (by decide +kernel)
theorem dX12_relax_32 : decode cX12_relax 32 = .ok (.getfield 327, 3) := dk_180 (by decide +kernel)
theorem dX12_relax_35 : decode cX12_relax 35 = .ok (.iload_n 2, 1) := dk_28 (by decide +kernel)
theorem dX12_relax_36 : decode cX12_relax 36 = .ok (.aload_n 0, 1) := dk_42 (by decide +kernel)
theorem dX12_relax_37 : decode cX12_relax 37 = .ok (.getfield 327, 3) := dk_180 (by decide +kernel)
theorem dX12_relax_40 : decode cX12_relax 40 = .ok (.iload_n 1, 1) := dk_27 (by decide +kernel)
theorem dX12_relax_41 : decode cX12_relax 41 = .ok (.iaload, 1) := dk_46 (by decide +kernel)
theorem dX12_relax_42 : decode cX12_relax 42 = .ok (.iload_n 3, 1) := dk_29 (by decide +kernel)
theorem dX12_relax_43 : decode cX12_relax 43 = .ok (.iadd, 1) := dk_96 (by decide +kernel)
theorem dX12_relax_44 : decode cX12_relax 44 = .ok (.iastore, 1) := dk_79 (by decide +kernel)
theorem dX12_relax_45 : decode cX12_relax 45 = .ok (.aload_n 0, 1) := dk_42 (by decide +kernel)
theorem dX12_relax_46 : decode cX12_relax 46 = .ok (.getfield 330, 3) := dk_180 (by decide +kernel)
theorem dX12_relax_49 : decode cX12_relax 49 = .ok (.iload_n 2, 1) := dk_28 (by decide +kernel)
theorem dX12_relax_50 : decode cX12_relax 50 = .ok (.iload 4, 2) := dk_21 (by decide +kernel)
theorem dX12_relax_52 : decode cX12_relax 52 = .ok (.iastore, 1) := dk_79 (by decide +kernel)
theorem dX12_relax_53 : decode cX12_relax 53 = .ok (.iconst 1, 1) := dk_4 (by decide +kernel)
theorem dX12_relax_54 : decode cX12_relax 54 = .ok (.ireturn, 1) := dk_172 (by decide +kernel)
def wsRX12_relax : List Cond := .code yX12_relax cX12_relax 5 (some .boolean) :: ([.fieldLink RX12 327 "OptimaWorksModel" "price" "[I", .constant RX12 1072 536870912, .fieldLink RX12 330 "OptimaWorksModel" "by" "[I"] ++ wsX120)
theorem iwsRX12_relax_in12 : ∀ w ∈ wsX120, w ∈ wsRX12_relax := fun _ h => List.mem_cons_of_mem _ (List.mem_append_right _ h)
theorem gdwsRX12_relax : wsRX12_relax.all goodWord = true := gdC rfl (gdA (by decide +kernel : ([.fieldLink RX12 327 "OptimaWorksModel" "price" "[I", .constant RX12 1072 536870912, .fieldLink RX12 330 "OptimaWorksModel" "by" "[I"] : List Cond).all goodWord = true) gdwsX120)
set_option maxHeartbeats 4000000 in
set_option maxRecDepth 100000 in
/-- relax(from, to, c, arc) -/
theorem r_X12_relax (l : Launch) (dC : Nat → ClassId) (dI : Nat → Nat → Nat) (a : Nat → Nat) (k : Nat → ClassId) (h0 : Nat) (vi : Nat → Int32) (vj : Nat → Int64) (vF : Nat → Nat → Int32) (vG : Nat → Nat → Int64) (uN : Nat) (vN : Nat) (cI : Int32) (bI : Int32) (hu12 : uN < 12) (hv12 : vN < 12) (hbu : 0 ≤ (vF 100 uN).toInt ∧ (vF 100 uN).toInt ≤ 536870912) (hbv : 0 ≤ (vF 100 vN).toInt ∧ (vF 100 vN).toInt ≤ 536870912) (hcI : -1000 ≤ (cI).toInt ∧ (cI).toInt ≤ 1000) (sz : Nat) : Met l yX12_relax wsRX12_relax ({ frames := 0, cells := 0, slots := 0, locals := 0 }) (va_Pc [.ref h0, .int (nI uN), .int (nI vN), .int cI, .int bI] (fun U => U.heap.size = sz ∧ va_P (dC, dI) vwCl (WR a k h0 vi vj vF vG) U.heap ∧ va_K (dC, dI) vwCl (tX12 k) U ∧ va_D (fun _ => True) (WR a k h0 vi vj vF vG))) (va_Qi (fun (r : Int32) (u : (Nat → Int32) × (Nat → Int32)) => (r = 1 ∧ (vF 100 uN ≠ 536870912) ∧ ((vF 100 uN).toInt + (cI).toInt < (vF 100 vN).toInt) ∧ (((u.1) vN).toInt = (vF 100 uN).toInt + (cI).toInt) ∧ (∀ w, w ≠ vN → (u.1) w = vF 100 w) ∧ ((u.2) vN = bI) ∧ (∀ w, w ≠ vN → (u.2) w = vF 101 w)) ∨ (r = 0 ∧ ((u.1) = vF 100) ∧ ((u.2) = vF 101) ∧ (vF 100 uN ≠ 536870912 → (vF 100 vN).toInt ≤ (vF 100 uN).toInt + (cI).toInt))) (fun (u : (Nat → Int32) × (Nat → Int32)) t => va_P (dC, dI) vwCl (WR a k h0 vi vj (fT (fT vF 100 (u.1)) 101 (u.2)) vG) t.heap ∧ va_D (va_A (WR a k h0 vi vj vF vG) sz) (WR a k h0 vi vj (fT (fT vF 100 (u.1)) 101 (u.2)) vG)) (va_A (WR a k h0 vi vj vF vG) sz)) 0 0 (va_A (WR a k h0 vi vj vF vG) sz) := by
  refine Met.ofW (cc := cX12_relax) (maxL := 5) (ret := (some .boolean)) (by decide) rfl ?_
  intro p e s m args below meth c s₁ B hml hv
  obtain ⟨rfl, hsz, hP, hK, hD0⟩ := hv
  have hx := B.exec
  have hb := B.bytes
  have hr := B.returns
  have hts := atoms_spec (ws := wsRX12_relax) B.pre
  have hown : s.vm.findClass RX12 = some m.cls := findClass_of_methodNamed B.named
  have hlocks := B.notSynchronized
  subst hsz
  have hD := hD0.self (sz := s.heap.size)
  generalize hAe : va_A (WR a k h0 vi vj vF vG) s.heap.size = A at hD ⊢
  have hA : ∀ q : Nat, s.heap.size ≤ q → A q := fun q h => by rw [← hAe]; exact Or.inr h
  have hS : va_S A s.heap s.heap [] := va_S.rf
  have hl := lv_entry ([.ref h0, .int (nI uN), .int (nI vN), .int cI, .int bI]) (n := 5) (Nat.le_of_ble_eq_true rfl)
  rw [lg_entry_eq]
  generalize (lg_sl ([.ref h0, .int (nI uN), .int (nI vN), .int cI, .int bI]) ++ List.replicate (5 - (lg_sl ([.ref h0, .int (nI uN), .int (nI vN), .int cI, .int bI])).length) Slot.unset).toArray = ls at hl ⊢
  have hl : lv_has ls 5 [(0, .ref h0), (1, .int (nI uN)), (2, .int (nI vN)), (3, .int cI), (4, .int bI)] := hl
  have ead : ((vF 100 uN) + cI).toInt = (vF 100 uN).toInt + (cI).toInt := addB (by omega) (by omega)
  refine lv_aload_n hx hb dX12_relax_0 rfl (lv_at hl 0 rfl) ?_
  refine va_get (D := (dC, dI)) (ci := 12) (v := .ref (a 100)) (C := RX12) (T := TX12) (N := 163) (fs := fM (vS a vi vj)) hx hb hts iwsRX12_relax_in12 hown hK hP 0 rfl rfl 156 (by decide) (hts (.fieldLink RX12 327 "OptimaWorksModel" "price" "[I") (by decide +kernel)) (fun _ h9 => h9) rfl dX12_relax_1 ?_
  refine lv_iload_n hx hb dX12_relax_4 rfl (lv_at hl 1 rfl) ?_
  refine va_iald (cA := k 100) (n := 12) (f := (vF 100)) hx hb hK hP 101 100 (WR_get 100 (by decide)) (TR_get 100 (by decide)) (vp_in_nI (show uN < 12 by omega) (by omega)) dX12_relax_5 ?_
  refine lv_topi (fun y1 hy1 => ?_)
  obtain rfl : ((vF 100) uN) = y1 := (hy1.trans (by rw [nI_clamp (by omega)])).symm
  refine lv_ldcw (v := 536870912) hx hb hown (hts (.constant RX12 1072 536870912) (by decide +kernel)) dX12_relax_6 ?_
  refine lv_icmp_eq (tgt := 29) hx hb dX12_relax_9 (by decide) (fun c_9 => ?_) (fun c_9 => ?_)
  · have t_9 : (((vF 100) uN)).toInt = 536870912 := toI_eq c_9 rfl (by decide)
    refine lv_iconst (v := 0) hx hb dX12_relax_29 (by decide) ?_
    refine W.widen (k := 0) (n := 0) (by decide +kernel) (by decide +kernel) ?_
    have e9 : fT (fT vF 100 (vF 100)) 101 (vF 101) = vF := (fT_id _ _ (fT_ne _ _ (Nat.ne_of_beq_eq_false rfl))).trans (fT_id _ _ (rfl))
    have hP : va_P (dC, dI) vwCl (WR a k h0 vi vj (fT (fT vF 100 (vF 100)) 101 (vF 101)) vG) s.heap := by rw [e9]; exact hP
    have hD : va_D A (WR a k h0 vi vj (fT (fT vF 100 (vF 100)) 101 (vF 101)) vG) := by rw [e9]; exact hD
    clear e9
    exact W.zret (v := 0) hx hb hr rfl (fun t9_ ht hW => ⟨⟨0, ((vF 100), (vF 101)), rfl, by (try dsimp only); exact Or.inr ⟨rfl, rfl, rfl, fun h9 => absurd c_9 h9⟩, by rw [ht]; exact hP, hD⟩, hS.F ht⟩) hS.2.2 dX12_relax_30
  · have t_9 : ¬ (((vF 100) uN)).toInt = 536870912 := toI_neq c_9 rfl (by decide)
    refine lv_aload_n hx hb dX12_relax_12 rfl (lv_at hl 0 rfl) ?_
    refine va_get (D := (dC, dI)) (ci := 12) (v := .ref (a 100)) (C := RX12) (T := TX12) (N := 163) (fs := fM (vS a vi vj)) hx hb hts iwsRX12_relax_in12 hown hK hP 0 rfl rfl 156 (by decide) (hts (.fieldLink RX12 327 "OptimaWorksModel" "price" "[I") (by decide +kernel)) (fun _ h9 => h9) rfl dX12_relax_13 ?_
    refine lv_iload_n hx hb dX12_relax_16 rfl (lv_at hl 1 rfl) ?_
    refine va_iald (cA := k 100) (n := 12) (f := (vF 100)) hx hb hK hP 101 100 (WR_get 100 (by decide)) (TR_get 100 (by decide)) (vp_in_nI (show uN < 12 by omega) (by omega)) dX12_relax_17 ?_
    refine lv_topi (fun y2 hy2 => ?_)
    obtain rfl : ((vF 100) uN) = y2 := (hy2.trans (by rw [nI_clamp (by omega)])).symm
    refine lv_iload_n hx hb dX12_relax_18 rfl (lv_at hl 3 rfl) ?_
    refine lv_iadd hx hb dX12_relax_19 ?_
    refine lv_aload_n hx hb dX12_relax_20 rfl (lv_at hl 0 rfl) ?_
    refine va_get (D := (dC, dI)) (ci := 12) (v := .ref (a 100)) (C := RX12) (T := TX12) (N := 163) (fs := fM (vS a vi vj)) hx hb hts iwsRX12_relax_in12 hown hK hP 0 rfl rfl 156 (by decide) (hts (.fieldLink RX12 327 "OptimaWorksModel" "price" "[I") (by decide +kernel)) (fun _ h9 => h9) rfl dX12_relax_21 ?_
    refine lv_iload_n hx hb dX12_relax_24 rfl (lv_at hl 2 rfl) ?_
    refine va_iald (cA := k 100) (n := 12) (f := (vF 100)) hx hb hK hP 101 100 (WR_get 100 (by decide)) (TR_get 100 (by decide)) (vp_in_nI (show vN < 12 by omega) (by omega)) dX12_relax_25 ?_
    refine lv_topi (fun y3 hy3 => ?_)
    obtain rfl : ((vF 100) vN) = y3 := (hy3.trans (by rw [nI_clamp (by omega)])).symm
    refine lv_icmp_lt (tgt := 31) hx hb dX12_relax_26 (by decide) (fun c_26 => ?_) (fun c_26 => ?_)
    · have t_26 : ((((vF 100) uN) + cI)).toInt < (((vF 100) vN)).toInt := toI_lt c_26 rfl rfl
      refine lv_aload_n hx hb dX12_relax_31 rfl (lv_at hl 0 rfl) ?_
      refine va_get (D := (dC, dI)) (ci := 12) (v := .ref (a 100)) (C := RX12) (T := TX12) (N := 163) (fs := fM (vS a vi vj)) hx hb hts iwsRX12_relax_in12 hown hK hP 0 rfl rfl 156 (by decide) (hts (.fieldLink RX12 327 "OptimaWorksModel" "price" "[I") (by decide +kernel)) (fun _ h9 => h9) rfl dX12_relax_32 ?_
      refine lv_iload_n hx hb dX12_relax_35 rfl (lv_at hl 2 rfl) ?_
      refine lv_aload_n hx hb dX12_relax_36 rfl (lv_at hl 0 rfl) ?_
      refine va_get (D := (dC, dI)) (ci := 12) (v := .ref (a 100)) (C := RX12) (T := TX12) (N := 163) (fs := fM (vS a vi vj)) hx hb hts iwsRX12_relax_in12 hown hK hP 0 rfl rfl 156 (by decide) (hts (.fieldLink RX12 327 "OptimaWorksModel" "price" "[I") (by decide +kernel)) (fun _ h9 => h9) rfl dX12_relax_37 ?_
      refine lv_iload_n hx hb dX12_relax_40 rfl (lv_at hl 1 rfl) ?_
      refine va_iald (cA := k 100) (n := 12) (f := (vF 100)) hx hb hK hP 101 100 (WR_get 100 (by decide)) (TR_get 100 (by decide)) (vp_in_nI (show uN < 12 by omega) (by omega)) dX12_relax_41 ?_
      refine lv_topi (fun y4 hy4 => ?_)
      obtain rfl : ((vF 100) uN) = y4 := (hy4.trans (by rw [nI_clamp (by omega)])).symm
      refine lv_iload_n hx hb dX12_relax_42 rfl (lv_at hl 3 rfl) ?_
      refine lv_iadd hx hb dX12_relax_43 ?_
      refine va_iast (cA := k 100) (n := 12) (f := (vF 100)) hx hb hK hP hD hS 101 100 (WR_get 100 (by decide)) (TR_get 100 (by decide)) (vp_in_nI (show vN < 12 by omega) (by omega)) dX12_relax_44 (fun H locs hP hD hS => ?_)
      have hP : va_P (dC, dI) vwCl (WR a k h0 vi vj (fT vF 100 (upd (vF 100) ((nI vN)).toNatClampNeg (((vF 100) uN) + cI))) vG) H := by rw [← WR_F 100 (by decide) _ rfl]; exact hP
      have hD : va_D A (WR a k h0 vi vj (fT vF 100 (upd (vF 100) ((nI vN)).toNatClampNeg (((vF 100) uN) + cI))) vG) := by rw [← WR_F 100 (by decide) _ rfl]; exact hD
      refine lv_aload_n hx hb dX12_relax_45 rfl (lv_at hl 0 rfl) ?_
      refine va_get (D := (dC, dI)) (ci := 12) (v := .ref (a 101)) (C := RX12) (T := TX12) (N := 163) (fs := fM (vS a vi vj)) hx hb hts iwsRX12_relax_in12 hown hK hP 0 rfl rfl 157 (by decide) (hts (.fieldLink RX12 330 "OptimaWorksModel" "by" "[I") (by decide +kernel)) (fun _ h9 => h9) rfl dX12_relax_46 ?_
      refine lv_iload_n hx hb dX12_relax_49 rfl (lv_at hl 2 rfl) ?_
      refine lv_iload hx hb dX12_relax_50 (lv_at hl 4 rfl) ?_
      refine va_iast (cA := k 101) (n := 12) (f := (vF 101)) hx hb hK hP hD hS 102 101 (WR_get 101 (by decide)) (TR_get 101 (by decide)) (vp_in_nI (show vN < 12 by omega) (by omega)) dX12_relax_52 (fun H locs hP hD hS => ?_)
      have hP : va_P (dC, dI) vwCl (WR a k h0 vi vj (fT (fT vF 100 (upd (vF 100) ((nI vN)).toNatClampNeg (((vF 100) uN) + cI))) 101 (upd (vF 101) ((nI vN)).toNatClampNeg bI)) vG) H := by rw [← WR_F 101 (by decide) _ rfl]; exact hP
      have hD : va_D A (WR a k h0 vi vj (fT (fT vF 100 (upd (vF 100) ((nI vN)).toNatClampNeg (((vF 100) uN) + cI))) 101 (upd (vF 101) ((nI vN)).toNatClampNeg bI)) vG) := by rw [← WR_F 101 (by decide) _ rfl]; exact hD
      refine lv_iconst (v := 1) hx hb dX12_relax_53 (by decide) ?_
      refine W.widen (k := 0) (n := 0) (by decide +kernel) (by decide +kernel) ?_
      exact W.zret (v := 1) hx hb hr rfl (fun t9_ ht hW => ⟨⟨1, ((upd (vF 100) ((nI vN)).toNatClampNeg (((vF 100) uN) + cI)), (upd (vF 101) ((nI vN)).toNatClampNeg bI)), rfl, by (try dsimp only); exact Or.inl ⟨rfl, c_9, by omega, by rw [upd_at (by omega), if_pos rfl]; exact ead, fun w hw => by rw [upd_at (by omega), if_neg hw], by rw [upd_at (by omega), if_pos rfl], fun w hw => by rw [upd_at (by omega), if_neg hw]⟩, by rw [ht]; exact hP, hD⟩, hS.F ht⟩) hS.2.2 dX12_relax_54
    · have t_26 : ¬ ((((vF 100) uN) + cI)).toInt < (((vF 100) vN)).toInt := toI_nlt c_26 rfl rfl
      refine lv_iconst (v := 0) hx hb dX12_relax_29 (by decide) ?_
      refine W.widen (k := 0) (n := 0) (by decide +kernel) (by decide +kernel) ?_
      have e9 : fT (fT vF 100 (vF 100)) 101 (vF 101) = vF := (fT_id _ _ (fT_ne _ _ (Nat.ne_of_beq_eq_false rfl))).trans (fT_id _ _ (rfl))
      have hP : va_P (dC, dI) vwCl (WR a k h0 vi vj (fT (fT vF 100 (vF 100)) 101 (vF 101)) vG) s.heap := by rw [e9]; exact hP
      have hD : va_D A (WR a k h0 vi vj (fT (fT vF 100 (vF 100)) 101 (vF 101)) vG) := by rw [e9]; exact hD
      clear e9
      exact W.zret (v := 0) hx hb hr rfl (fun t9_ ht hW => ⟨⟨0, ((vF 100), (vF 101)), rfl, by (try dsimp only); exact Or.inr ⟨rfl, rfl, rfl, fun _ => by omega⟩, by rw [ht]; exact hP, hD⟩, hS.F ht⟩) hS.2.2 dX12_relax_30
theorem dX12_send_0 : decode cX12_send 0 = .ok (.iconst 0, 1) := dk_3 (by decide +kernel)
theorem dX12_send_1 : decode cX12_send 1 = .ok (.istore 4, 2) := dk_54 (by decide +kernel)
theorem dX12_send_3 : decode cX12_send 3 = .ok (.iload 4, 2) := dk_21 (by decide +kernel)
theorem dX12_send_5 : decode cX12_send 5 = .ok (.aload_n 0, 1) := dk_42 (by decide +kernel)
theorem dX12_send_6 : decode cX12_send 6 = .ok (.getfield 1069, 3) := dk_180 (by decide +kernel)
theorem dX12_send_9 : decode cX12_send 9 = .ok (.if_icmp .ge 17, 3) := dk_162 (by decide +kernel)
theorem dX12_send_12 : decode cX12_send 12 = .ok (.aload_n 0, 1) := dk_42 (by decide +kernel)
theorem dX12_send_13 : decode cX12_send 13 = .ok (.getfield 324, 3) := dk_180 (by decide +kernel)
theorem dX12_send_16 : decode cX12_send 16 = .ok (.iload 4, 2) := dk_21 (by decide +kernel)
theorem dX12_send_18 : decode cX12_send 18 = .ok (.iconst 0, 1) := dk_3 (by decide +kernel)
theorem dX12_send_19 : decode cX12_send 19 = .ok (.iastore, 1) := dk_79 (by decide +kernel)
theorem dX12_send_20 : decode cX12_send 20 = .ok (.iinc 4 1, 3) := dk_132 (by decide +kernel)
theorem dX12_send_23 : decode cX12_send 23 = .ok (.goto (-20), 3) := dk_167 (by decide +kernel)
theorem dX12_send_26 : decode cX12_send 26 = .ok (.iconst 0, 1) := dk_3 (by decide +kernel)
theorem dX12_send_27 : decode cX12_send 27 = .ok (.istore 4, 2) := dk_54 (by decide +kernel)
theorem dX12_send_29 : decode cX12_send 29 = .ok (.iconst 1, 1) := dk_4 (by decide +kernel)
theorem dX12_send_30 : decode cX12_send 30 = .ok (.istore 5, 2) := dk_54 (by decide +kernel)
theorem dX12_send_32 : decode cX12_send 32 = .ok (.iload 5, 2) := dk_21 (by decide +kernel)
theorem dX12_send_34 : decode cX12_send 34 = .ok (.ifCond .eq 236, 3) := dk_153 (by decide +kernel)
theorem dX12_send_37 : decode cX12_send 37 = .ok (.iload 4, 2) := dk_21 (by decide +kernel)
theorem dX12_send_39 : decode cX12_send 39 = .ok (.iload_n 3, 1) := dk_29 (by decide +kernel)
theorem dX12_send_40 : decode cX12_send 40 = .ok (.if_icmp .ge 230, 3) := dk_162 (by decide +kernel)
theorem dX12_send_43 : decode cX12_send 43 = .ok (.iconst 0, 1) := dk_3 (by decide +kernel)
theorem dX12_send_44 : decode cX12_send 44 = .ok (.istore 6, 2) := dk_54 (by decide +kernel)
theorem dX12_send_46 : decode cX12_send 46 = .ok (.iload 6, 2) := dk_21 (by decide +kernel)
theorem dX12_send_48 : decode cX12_send 48 = .ok (.bipush 12, 2) := dk_16 (by decide +kernel)
theorem dX12_send_50 : decode cX12_send 50 = .ok (.if_icmp .ge 29, 3) := dk_162 (by decide +kernel)
theorem dX12_send_53 : decode cX12_send 53 = .ok (.aload_n 0, 1) := dk_42 (by decide +kernel)
theorem dX12_send_54 : decode cX12_send 54 = .ok (.getfield 327, 3) := dk_180 (by decide +kernel)
theorem dX12_send_57 : decode cX12_send 57 = .ok (.iload 6, 2) := dk_21 (by decide +kernel)
theorem dX12_send_59 : decode cX12_send 59 = .ok (.iload 6, 2) := dk_21 (by decide +kernel)
theorem dX12_send_61 : decode cX12_send 61 = .ok (.iload_n 1, 1) := dk_27 (by decide +kernel)
theorem dX12_send_62 : decode cX12_send 62 = .ok (.if_icmp .ne 7, 3) := dk_160 (by decide +kernel)
theorem dX12_send_65 : decode cX12_send 65 = .ok (.iconst 0, 1) := dk_3 (by decide +kernel)
theorem dX12_send_66 : decode cX12_send 66 = .ok (.goto 6, 3) := dk_167 (by decide +kernel)
theorem dX12_send_69 : decode cX12_send 69 = .ok (.ldc_w 1072, 3) := dk_19 (by decide +kernel)
theorem dX12_send_72 : decode cX12_send 72 = .ok (.iastore, 1) := dk_79 (by decide +kernel)
theorem dX12_send_73 : decode cX12_send 73 = .ok (.iinc 6 1, 3) := dk_132 (by decide +kernel)
theorem dX12_send_76 : decode cX12_send 76 = .ok (.goto (-30), 3) := dk_167 (by decide +kernel)
theorem dX12_send_79 : decode cX12_send 79 = .ok (.iconst 1, 1) := dk_4 (by decide +kernel)
theorem dX12_send_80 : decode cX12_send 80 = .ok (.istore 6, 2) := dk_54 (by decide +kernel)
theorem dX12_send_82 : decode cX12_send 82 = .ok (.iload 6, 2) := dk_21 (by decide +kernel)
theorem dX12_send_84 : decode cX12_send 84 = .ok (.ifCond .eq 144, 3) := dk_153 (by decide +kernel)
theorem dX12_send_87 : decode cX12_send 87 = .ok (.iconst 0, 1) := dk_3 (by decide +kernel)
theorem dX12_send_88 : decode cX12_send 88 = .ok (.istore 6, 2) := dk_54 (by decide +kernel)
theorem dX12_send_90 : decode cX12_send 90 = .ok (.iconst 0, 1) := dk_3 (by decide +kernel)
theorem dX12_send_91 : decode cX12_send 91 = .ok (.istore 7, 2) := dk_54 (by decide +kernel)
theorem dX12_send_93 : decode cX12_send 93 = .ok (.iload 7, 2) := dk_21 (by decide +kernel)
theorem dX12_send_95 : decode cX12_send 95 = .ok (.aload_n 0, 1) := dk_42 (by decide +kernel)
theorem dX12_send_96 : decode cX12_send 96 = .ok (.getfield 1069, 3) := dk_180 (by decide +kernel)
theorem dX12_send_99 : decode cX12_send 99 = .ok (.if_icmp .ge 126, 3) := dk_162 (by decide +kernel)
theorem dX12_send_102 : decode cX12_send 102 = .ok (.aload_n 0, 1) := dk_42 (by decide +kernel)
theorem dX12_send_103 : decode cX12_send 103 = .ok (.getfield 324, 3) := dk_180 (by decide +kernel)
theorem dX12_send_106 : decode cX12_send 106 = .ok (.iload 7, 2) := dk_21 (by decide +kernel)
theorem dX12_send_108 : decode cX12_send 108 = .ok (.iaload, 1) := dk_46 (by decide +kernel)
theorem dX12_send_109 : decode cX12_send 109 = .ok (.aload_n 0, 1) := dk_42 (by decide +kernel)
theorem dX12_send_110 : decode cX12_send 110 = .ok (.getfield 318, 3) := dk_180 (by decide +kernel)
theorem dX12_send_113 : decode cX12_send 113 = .ok (.iload 7, 2) := dk_21 (by decide +kernel)
theorem dX12_send_115 : decode cX12_send 115 = .ok (.iaload, 1) := dk_46 (by decide +kernel)
theorem dX12_send_116 : decode cX12_send 116 = .ok (.if_icmp .ge 47, 3) := dk_162 (by decide +kernel)
theorem dX12_send_119 : decode cX12_send 119 = .ok (.aload_n 0, 1) := dk_42 (by decide +kernel)
theorem dX12_send_120 : decode cX12_send 120 = .ok (.aload_n 0, 1) := dk_42 (by decide +kernel)
theorem dX12_send_121 : decode cX12_send 121 = .ok (.getfield 312, 3) := dk_180 (by decide +kernel)
theorem dX12_send_124 : decode cX12_send 124 = .ok (.iload 7, 2) := dk_21 (by decide +kernel)
theorem dX12_send_126 : decode cX12_send 126 = .ok (.iaload, 1) := dk_46 (by decide +kernel)
theorem dX12_send_127 : decode cX12_send 127 = .ok (.aload_n 0, 1) := dk_42 (by decide +kernel)
theorem dX12_send_128 : decode cX12_send 128 = .ok (.getfield 315, 3) := dk_180 (by decide +kernel)
theorem dX12_send_131 : decode cX12_send 131 = .ok (.iload 7, 2) := dk_21 (by decide +kernel)
theorem dX12_send_133 : decode cX12_send 133 = .ok (.iaload, 1) := dk_46 (by decide +kernel)
theorem dX12_send_134 : decode cX12_send 134 = .ok (.aload_n 0, 1) := dk_42 (by decide +kernel)
theorem dX12_send_135 : decode cX12_send 135 = .ok (.getfield 321, 3) := dk_180 (by decide +kernel)
theorem dX12_send_138 : decode cX12_send 138 = .ok (.iload 7, 2) := dk_21 (by decide +kernel)
theorem dX12_send_140 : decode cX12_send 140 = .ok (.iaload, 1) := dk_46 (by decide +kernel)
theorem dX12_send_141 : decode cX12_send 141 = .ok (.iload 7, 2) := dk_21 (by decide +kernel)
theorem dX12_send_143 : decode cX12_send 143 = .ok (.iconst 1, 1) := dk_4 (by decide +kernel)
theorem dX12_send_144 : decode cX12_send 144 = .ok (.iadd, 1) := dk_96 (by decide +kernel)
theorem dX12_send_145 : decode cX12_send 145 = .ok (.invokevirtual 1073, 3) := dk_182 (by decide +kernel)
theorem dX12_send_148 : decode cX12_send 148 = .ok (.ifCond .ne 8, 3) := dk_154 (by decide +kernel)
theorem dX12_send_151 : decode cX12_send 151 = .ok (.iload 6, 2) := dk_21 (by decide +kernel)
theorem dX12_send_153 : decode cX12_send 153 = .ok (.ifCond .eq 7, 3) := dk_153 (by decide +kernel)
theorem dX12_send_156 : decode cX12_send 156 = .ok (.iconst 1, 1) := dk_4 (by decide +kernel)
theorem dX12_send_157 : decode cX12_send 157 = .ok (.goto 4, 3) := dk_167 (by decide +kernel)
theorem dX12_send_160 : decode cX12_send 160 = .ok (.iconst 0, 1) := dk_3 (by decide +kernel)
theorem dX12_send_161 : decode cX12_send 161 = .ok (.istore 6, 2) := dk_54 (by decide +kernel)
theorem dX12_send_163 : decode cX12_send 163 = .ok (.aload_n 0, 1) := dk_42 (by decide +kernel)
theorem dX12_send_164 : decode cX12_send 164 = .ok (.getfield 324, 3) := dk_180 (by decide +kernel)
theorem dX12_send_167 : decode cX12_send 167 = .ok (.iload 7, 2) := dk_21 (by decide +kernel)
theorem dX12_send_169 : decode cX12_send 169 = .ok (.iaload, 1) := dk_46 (by decide +kernel)
theorem dX12_send_170 : decode cX12_send 170 = .ok (.ifCond .le 49, 3) := dk_158 (by decide +kernel)
theorem dX12_send_173 : decode cX12_send 173 = .ok (.aload_n 0, 1) := dk_42 (by decide +kernel)
theorem dX12_send_174 : decode cX12_send 174 = .ok (.aload_n 0, 1) := dk_42 (by decide +kernel)
theorem dX12_send_175 : decode cX12_send 175 = .ok (.getfield 315, 3) := dk_180 (by decide +kernel)
theorem dX12_send_178 : decode cX12_send 178 = .ok (.iload 7, 2) := dk_21 (by decide +kernel)
theorem dX12_send_180 : decode cX12_send 180 = .ok (.iaload, 1) := dk_46 (by decide +kernel)
theorem dX12_send_181 : decode cX12_send 181 = .ok (.aload_n 0, 1) := dk_42 (by decide +kernel)
theorem dX12_send_182 : decode cX12_send 182 = .ok (.getfield 312, 3) := dk_180 (by decide +kernel)
theorem dX12_send_185 : decode cX12_send 185 = .ok (.iload 7, 2) := dk_21 (by decide +kernel)
theorem dX12_send_187 : decode cX12_send 187 = .ok (.iaload, 1) := dk_46 (by decide +kernel)
theorem dX12_send_188 : decode cX12_send 188 = .ok (.aload_n 0, 1) := dk_42 (by decide +kernel)
theorem dX12_send_189 : decode cX12_send 189 = .ok (.getfield 321, 3) := dk_180 (by decide +kernel)
theorem dX12_send_192 : decode cX12_send 192 = .ok (.iload 7, 2) := dk_21 (by decide +kernel)
theorem dX12_send_194 : decode cX12_send 194 = .ok (.iaload, 1) := dk_46 (by decide +kernel)
theorem dX12_send_195 : decode cX12_send 195 = .ok (.ineg, 1) := dk_116 (by decide +kernel)
theorem dX12_send_196 : decode cX12_send 196 = .ok (.iload 7, 2) := dk_21 (by decide +kernel)
theorem dX12_send_198 : decode cX12_send 198 = .ok (.ineg, 1) := dk_116 (by decide +kernel)
theorem dX12_send_199 : decode cX12_send 199 = .ok (.iconst 1, 1) := dk_4 (by decide +kernel)
theorem dX12_send_200 : decode cX12_send 200 = .ok (.isub, 1) := dk_100 (by decide +kernel)
theorem dX12_send_201 : decode cX12_send 201 = .ok (.invokevirtual 1073, 3) := dk_182 (by decide +kernel)
theorem dX12_send_204 : decode cX12_send 204 = .ok (.ifCond .ne 8, 3) := dk_154 (by decide +kernel)
theorem dX12_send_207 : decode cX12_send 207 = .ok (.iload 6, 2) := dk_21 (by decide +kernel)
theorem dX12_send_209 : decode cX12_send 209 = .ok (.ifCond .eq 7, 3) := dk_153 (by decide +kernel)
theorem dX12_send_212 : decode cX12_send 212 = .ok (.iconst 1, 1) := dk_4 (by decide +kernel)
theorem dX12_send_213 : decode cX12_send 213 = .ok (.goto 4, 3) := dk_167 (by decide +kernel)
theorem dX12_send_216 : decode cX12_send 216 = .ok (.iconst 0, 1) := dk_3 (by decide +kernel)
theorem dX12_send_217 : decode cX12_send 217 = .ok (.istore 6, 2) := dk_54 (by decide +kernel)
theorem dX12_send_219 : decode cX12_send 219 = .ok (.iinc 7 1, 3) := dk_132 (by decide +kernel)
theorem dX12_send_222 : decode cX12_send 222 = .ok (.goto (-129), 3) := dk_167 (by decide +kernel)
theorem dX12_send_225 : decode cX12_send 225 = .ok (.goto (-143), 3) := dk_167 (by decide +kernel)
theorem dX12_send_228 : decode cX12_send 228 = .ok (.aload_n 0, 1) := dk_42 (by decide +kernel)
theorem dX12_send_229 : decode cX12_send 229 = .ok (.getfield 327, 3) := dk_180 (by decide +kernel)
theorem dX12_send_232 : decode cX12_send 232 = .ok (.iload_n 2, 1) := dk_28 (by decide +kernel)
theorem dX12_send_233 : decode cX12_send 233 = .ok (.iaload, 1) := dk_46 (by decide +kernel)
theorem dX12_send_234 : decode cX12_send 234 = .ok (.ldc_w 1072, 3) := dk_19 (by decide +kernel)
theorem dX12_send_237 : decode cX12_send 237 = .ok (.if_icmp .ge 7, 3) := dk_162 (by decide +kernel)
theorem dX12_send_240 : decode cX12_send 240 = .ok (.iconst 1, 1) := dk_4 (by decide +kernel)
theorem dX12_send_241 : decode cX12_send 241 = .ok (.goto 4, 3) := dk_167 (by decide +kernel)
theorem dX12_send_244 : decode cX12_send 244 = .ok (.iconst 0, 1) := dk_3 (by decide +kernel)
theorem dX12_send_245 : decode cX12_send 245 = .ok (.istore 5, 2) := dk_54 (by decide +kernel)
theorem dX12_send_247 : decode cX12_send 247 = .ok (.iload 5, 2) := dk_21 (by decide +kernel)
theorem dX12_send_249 : decode cX12_send 249 = .ok (.ifCond .eq 18, 3) := dk_153 (by decide +kernel)
theorem dX12_send_252 : decode cX12_send 252 = .ok (.iload 4, 2) := dk_21 (by decide +kernel)
theorem dX12_send_254 : decode cX12_send 254 = .ok (.aload_n 0, 1) := dk_42 (by decide +kernel)
theorem dX12_send_255 : decode cX12_send 255 = .ok (.iload_n 1, 1) := dk_27 (by decide +kernel)
theorem dX12_send_256 : decode cX12_send 256 = .ok (.iload_n 2, 1) := dk_28 (by decide +kernel)
theorem dX12_send_257 : decode cX12_send 257 = .ok (.iload_n 3, 1) := dk_29 (by decide +kernel)
theorem dX12_send_258 : decode cX12_send 258 = .ok (.iload 4, 2) := dk_21 (by decide +kernel)
theorem dX12_send_260 : decode cX12_send 260 = .ok (.isub, 1) := dk_100 (by decide +kernel)
theorem dX12_send_261 : decode cX12_send 261 = .ok (.invokevirtual 1076, 3) := dk_182 (by decide +kernel)
theorem dX12_send_264 : decode cX12_send 264 = .ok (.iadd, 1) := dk_96 (by decide +kernel)
theorem dX12_send_265 : decode cX12_send 265 = .ok (.istore 4, 2) := dk_54 (by decide +kernel)
theorem dX12_send_267 : decode cX12_send 267 = .ok (.goto (-235), 3) := dk_167 (by decide +kernel)
theorem dX12_send_270 : decode cX12_send 270 = .ok (.iload 4, 2) := dk_21 (by decide +kernel)
theorem dX12_send_272 : decode cX12_send 272 = .ok (.ireturn, 1) := dk_172 (by decide +kernel)
def wsRX12_send : List Cond := .code yX12_send cX12_send 8 (some .int) :: ([.fieldLink RX12 1069 "OptimaWorksModel" "arcs" "I", .fieldLink RX12 327 "OptimaWorksModel" "price" "[I", .constant RX12 1072 536870912, .fieldLink RX12 324 "OptimaWorksModel" "flow" "[I", .fieldLink RX12 318 "OptimaWorksModel" "arcRoom" "[I", .fieldLink RX12 312 "OptimaWorksModel" "arcFrom" "[I", .fieldLink RX12 315 "OptimaWorksModel" "arcTo" "[I", .fieldLink RX12 321 "OptimaWorksModel" "arcCost" "[I"] ++ wsX120 ++ (wsV RX12 1076 RX12 yX12_push wsRX12_push) ++ (wsV RX12 1073 RX12 yX12_relax wsRX12_relax))
theorem iwsRX12_send_in12 : ∀ w ∈ wsX120, w ∈ wsRX12_send := fun _ h => List.mem_cons_of_mem _ (List.mem_append_left _ (List.mem_append_left _ (List.mem_append_right _ h)))
theorem gwsRX12_send_0 : GoodIn wsRX12_send (wsV RX12 1076 RX12 yX12_push wsRX12_push) := goodIn_sub (fun _ h => List.mem_cons_of_mem _ (List.mem_append_left _ (List.mem_append_right _ h))) (gdV (by decide +kernel) gdwsRX12_push)
theorem gwsRX12_send_1 : GoodIn wsRX12_send (wsV RX12 1073 RX12 yX12_relax wsRX12_relax) := goodIn_sub (fun _ h => List.mem_cons_of_mem _ (List.mem_append_right _ h)) (gdV (by decide +kernel) gdwsRX12_relax)
theorem gdwsRX12_send : wsRX12_send.all goodWord = true := gdC rfl (gdA (gdA (gdA (by decide +kernel : ([.fieldLink RX12 1069 "OptimaWorksModel" "arcs" "I", .fieldLink RX12 327 "OptimaWorksModel" "price" "[I", .constant RX12 1072 536870912, .fieldLink RX12 324 "OptimaWorksModel" "flow" "[I", .fieldLink RX12 318 "OptimaWorksModel" "arcRoom" "[I", .fieldLink RX12 312 "OptimaWorksModel" "arcFrom" "[I", .fieldLink RX12 315 "OptimaWorksModel" "arcTo" "[I", .fieldLink RX12 321 "OptimaWorksModel" "arcCost" "[I"] : List Cond).all goodWord = true) gdwsX120) (gdV (by decide +kernel) gdwsRX12_push)) (gdV (by decide +kernel) gdwsRX12_relax))
set_option maxHeartbeats 4000000 in
set_option maxRecDepth 100000 in
/-- send(s, t, amount) -/
theorem r_X12_send (l : Launch) (dC : Nat → ClassId) (dI : Nat → Nat → Nat) (a : Nat → Nat) (k : Nat → ClassId) (h0 : Nat) (vi : Nat → Int32) (vj : Nat → Int64) (vF : Nat → Nat → Int32) (vG : Nat → Nat → Int64) (ar : Nat) (sN : Nat) (tN : Nat) (am : Int32) (har : vi 150 = nI ar) (har40 : ar ≤ 40) (hAr : ArO (vF 95) (vF 96) (vF 97) (vF 98) ar) (hs12 : sN < 12) (ht12 : tN < 12) (htsn : tN ≠ sN) (sz : Nat) : Met l yX12_send wsRX12_send ({ frames := 1, cells := 0, slots := 0, locals := 27 }) (va_Pc [.ref h0, .int (nI sN), .int (nI tN), .int am] (fun U => U.heap.size = sz ∧ va_P (dC, dI) vwCl (WR a k h0 vi vj vF vG) U.heap ∧ va_K (dC, dI) vwCl (tX12 k) U ∧ va_D (fun _ => True) (WR a k h0 vi vj vF vG))) (va_Qi (fun (r : Int32) (u : (Nat → Int32) × (Nat → Int32) × (Nat → Int32)) => (FlO (vF 97) (u.1) ar) ∧ (rsI (((ar : Nat) : Int), vF 95, vF 96, vF 97, vF 98) sN tN (fI (u.1)) r.toInt ar) ∧ (r.toInt < (am : Int32).toInt → ∃ R, sep sN tN R ∧ flC (((ar : Nat) : Int), vF 95, vF 96, vF 97, vF 98) (fI (u.1)) R ar) ∧ (0 ≤ r.toInt) ∧ (∃ p, PoO (vF 95) (vF 96) (vF 97) (vF 98) (u.1) ar (fun _ => True) p) ∧ (r.toInt = 0 ∨ r.toInt ≤ (am : Int32).toInt)) (fun (u : (Nat → Int32) × (Nat → Int32) × (Nat → Int32)) t => va_P (dC, dI) vwCl (WR a k h0 vi vj (fT (fT (fT vF 99 (u.1)) 100 (u.2.1)) 101 (u.2.2)) vG) t.heap ∧ va_D (va_A (WR a k h0 vi vj vF vG) sz) (WR a k h0 vi vj (fT (fT (fT vF 99 (u.1)) 100 (u.2.1)) 101 (u.2.2)) vG)) (va_A (WR a k h0 vi vj vF vG) sz)) 0 0 (va_A (WR a k h0 vi vj vF vG) sz) := by
  refine Met.ofW (cc := cX12_send) (maxL := 8) (ret := (some .int)) (by decide) rfl ?_
  intro p e s m args below meth c s₁ B hml hv
  obtain ⟨rfl, hsz, hP, hK, hD0⟩ := hv
  have hx := B.exec
  have hb := B.bytes
  have hr := B.returns
  have hts := atoms_spec (ws := wsRX12_send) B.pre
  have hown : s.vm.findClass RX12 = some m.cls := findClass_of_methodNamed B.named
  have hlocks := B.notSynchronized
  subst hsz
  have hD := hD0.self (sz := s.heap.size)
  generalize hAe : va_A (WR a k h0 vi vj vF vG) s.heap.size = A at hD ⊢
  have hA : ∀ q : Nat, s.heap.size ≤ q → A q := fun q h => by rw [← hAe]; exact Or.inr h
  have hS : va_S A s.heap s.heap [] := va_S.rf
  have hl := lv_entry ([.ref h0, .int (nI sN), .int (nI tN), .int am]) (n := 8) (Nat.le_of_ble_eq_true rfl)
  rw [lg_entry_eq]
  generalize (lg_sl ([.ref h0, .int (nI sN), .int (nI tN), .int am]) ++ List.replicate (8 - (lg_sl ([.ref h0, .int (nI sN), .int (nI tN), .int am])).length) Slot.unset).toArray = ls at hl ⊢
  have hl : lv_has ls 8 [(0, .ref h0), (1, .int (nI sN)), (2, .int (nI tN)), (3, .int am)] := hl
  have hamC := Int32.toInt_lt am
  refine lv_iconst (v := 0) hx hb dX12_send_0 (by decide) ?_
  refine lv_istore hx hb dX12_send_1 hl (by decide) rfl (fun ls (hl : lv_has ls _ ([(4, .int 0), (0, .ref h0), (1, .int (nI sN)), (2, .int (nI tN)), (3, .int am)])) => ?_)
  have e9 : fT vF 99 (vF 99) = vF := by funext q9; by_cases h9_99 : q9 = 99; (subst h9_99; exact (fT_eq _ _ _).trans (Eq.trans (by first | rfl | assumption | (symm; assumption) | (subst_vars; rfl)) (Eq.refl _).symm)); exact (fT_ne _ _ h9_99).trans (Eq.refl _).symm
  have hP : va_P (dC, dI) vwCl (WR a k h0 vi vj (fT vF 99 (vF 99)) vG) s.heap := by rw [e9]; exact hP
  have hD : va_D A (WR a k h0 vi vj (fT vF 99 (vF 99)) vG) := by rw [e9]; exact hD
  clear e9
  have hl : lv_has _ _ ([(0, .ref h0), (1, .int (nI sN)), (2, .int (nI tN)), (3, .int am), (4, .int (nI 0))]) := lv_sub hl [1, 2, 3, 4, 0] rfl
  refine (fun (loop : ∀ (n9 : Nat) (k5 : Nat) (f0 : Nat → Int32) (H : Heap) (locs : List Loc) (ls : Array Slot), (k5 ≤ ar) → (∀ a, a < k5 → f0 a = 0) →  (ar < k5 + n9) → va_P (dC, dI) vwCl (WR a k h0 vi vj (fT vF 99 f0) vG) H → va_D A (WR a k h0 vi vj (fT vF 99 f0) vG) → va_S A s.heap H locs → lv_has ls 8 [(0, .ref h0), (1, .int (nI sN)), (2, .int (nI tN)), (3, .int am), (4, .int (nI k5))] → W p l e _ s m _ below meth c H locs 0 0 _ (F0 m 3 ls [])) => loop (ar + 1) 0 (vF 99) _ _ _ (by omega) (fun a ha => absurd ha (by omega)) (by omega) hP hD hS hl) ?_
  intro n9
  induction n9 with
  | zero => intro k5 f0 H locs ls hk5 hz0 hf9; exact False.elim (by omega)
  | succ n9 ih3 =>
    intro k5 f0 H locs ls hk5 hz0 hf3 hP hD hS hl
    refine lv_iload hx hb dX12_send_3 (lv_at hl 4 rfl) ?_
    refine lv_aload_n hx hb dX12_send_5 rfl (lv_at hl 0 rfl) ?_
    refine va_get (D := (dC, dI)) (ci := 12) (v := .int (vi 150)) (C := RX12) (T := TX12) (N := 163) (fs := fM (vS a vi vj)) hx hb hts iwsRX12_send_in12 hown hK hP 0 rfl rfl 150 (by decide) (hts (.fieldLink RX12 1069 "OptimaWorksModel" "arcs" "I") (by decide +kernel)) (fun _ h9 => h9) rfl dX12_send_6 ?_
    refine lv_topi (fun y1 hy1 => ?_)
    obtain rfl : (nI ar) = y1 := (hy1.trans (har)).symm
    refine lv_icmp_ge (tgt := 26) hx hb dX12_send_9 (by decide) (fun c_9 => ?_) (fun c_9 => ?_)
    · have t_9 : ((k5 : Nat) : Int) ≥ ((ar : Nat) : Int) := toI_ge c_9 (nI_toInt (by omega)) (nI_toInt (by omega))
      have hz9 : ∀ a, a < ar → f0 a = 0 := fun a ha => hz0 a (by omega)
      refine lv_iconst (v := 0) hx hb dX12_send_26 (by decide) ?_
      refine lv_istore hx hb dX12_send_27 hl (by decide) rfl (fun ls (hl : lv_has ls _ ([(4, .int 0), (0, .ref h0), (1, .int (nI sN)), (2, .int (nI tN)), (3, .int am)])) => ?_)
      refine lv_iconst (v := 1) hx hb dX12_send_29 (by decide) ?_
      refine lv_istore hx hb dX12_send_30 hl (by decide) rfl (fun ls (hl : lv_has ls _ ([(5, .int 1), (4, .int 0), (0, .ref h0), (1, .int (nI sN)), (2, .int (nI tN)), (3, .int am)])) => ?_)
      have e9 : fT (fT (fT vF 99 f0) 100 (vF 100)) 101 (vF 101) = fT vF 99 f0 := by funext q9; by_cases h9_99 : q9 = 99; (subst h9_99; exact ((fT_ne _ _ (Nat.ne_of_beq_eq_false rfl)).trans ((fT_ne _ _ (Nat.ne_of_beq_eq_false rfl)).trans (fT_eq _ _ _))).trans (Eq.trans (by first | rfl | assumption | (symm; assumption) | (subst_vars; rfl)) (fT_eq _ _ _).symm)); by_cases h9_100 : q9 = 100; (subst h9_100; exact ((fT_ne _ _ (Nat.ne_of_beq_eq_false rfl)).trans (fT_eq _ _ _)).trans (Eq.trans (by first | rfl | assumption | (symm; assumption) | (subst_vars; rfl)) (fT_ne _ _ (Nat.ne_of_beq_eq_false rfl)).symm)); by_cases h9_101 : q9 = 101; (subst h9_101; exact (fT_eq _ _ _).trans (Eq.trans (by first | rfl | assumption | (symm; assumption) | (subst_vars; rfl)) (fT_ne _ _ (Nat.ne_of_beq_eq_false rfl)).symm)); exact ((fT_ne _ _ h9_101).trans ((fT_ne _ _ h9_100).trans (fT_ne _ _ h9_99))).trans (fT_ne _ _ h9_99).symm
      have hP : va_P (dC, dI) vwCl (WR a k h0 vi vj (fT (fT (fT vF 99 f0) 100 (vF 100)) 101 (vF 101)) vG) H := by rw [e9]; exact hP
      have hD : va_D A (WR a k h0 vi vj (fT (fT (fT vF 99 f0) 100 (vF 100)) 101 (vF 101)) vG) := by rw [e9]; exact hD
      clear e9
      have hl : lv_has _ _ ([(0, .ref h0), (1, .int (nI sN)), (2, .int (nI tN)), (3, .int am), (4, .int (nI 0)), (5, .int 1)]) := lv_sub hl [2, 3, 4, 5, 1, 0] rfl
      refine (fun (loop : ∀ (n9 : Nat) (sn : Nat) (mo : Int32) (f9 : Nat → Int32) (RR : Nat → Prop) (pp : Nat → Int) (x4_F100 : Nat → Int32) (x4_F101 : Nat → Int32) (H : Heap) (locs : List Loc) (ls : Array Slot), (FlO (vF 97) f9 ar) → (PoO (vF 95) (vF 96) (vF 97) (vF 98) f9 ar RR pp) → (∀ v, RR v → 0 ≤ pp v) → (pp sN = 0) → (RR sN) → (sn = 0 ∨ (sn : Int) ≤ (am).toInt) → (rsI (((ar : Nat) : Int), vF 95, vF 96, vF 97, vF 98) sN tN (fI f9) (sn : Int) ar) → (∃ p, PoO (vF 95) (vF 96) (vF 97) (vF 98) f9 ar (fun _ => True) p) → (mo = 0 → ∃ R, sep sN tN R ∧ flC (((ar : Nat) : Int), vF 95, vF 96, vF 97, vF 98) (fI f9) R ar) →  ((mo = 0 ∧ 0 < n9) ∨ (0 < n9 ∧ (am).toInt < (sn : Int) + (n9 : Int))) → va_P (dC, dI) vwCl (WR a k h0 vi vj (fT (fT (fT vF 99 f9) 100 x4_F100) 101 x4_F101) vG) H → va_D A (WR a k h0 vi vj (fT (fT (fT vF 99 f9) 100 x4_F100) 101 x4_F101) vG) → va_S A s.heap H locs → lv_has ls 8 [(0, .ref h0), (1, .int (nI sN)), (2, .int (nI tN)), (3, .int am), (4, .int (nI sn)), (5, .int mo)] → W p l e _ s m _ below meth c H locs 0 0 _ (F0 m 32 ls [])) => loop ((am).toInt.toNat + 1) 0 1 f0 (fun _ => True) (fun _ => 0) (vF 100) (vF 101) _ _ _ (FlO.init hAr hz9) (PoO.init hAr hz9) (fun _ _ => Int.le_refl _) (rfl) (trivial) (Or.inl rfl) (rsI.start (fun a ha => by unfold fI; (try dsimp only); rw [hz9 a ha]; decide)) (⟨_, PoO.init hAr hz9⟩) (fun h9 => absurd h9 (by decide)) (Or.inr ⟨by omega, by omega⟩) hP hD hS hl) ?_
      intro n9
      induction n9 with
      | zero => intro sn mo f9 RR pp x4_F100 x4_F101 H locs ls hFl hPo hpR hps hRs hsn hrI hPa hEn hf9; exact False.elim (by omega)
      | succ n9 ih32_1 =>
        intro sn mo f9 RR pp x4_F100 x4_F101 H locs ls hFl hPo hpR hps hRs hsn hrI hPa hEn hf32_1 hP hD hS hl
        have hfx := hf32_1
        refine lv_iload hx hb dX12_send_32 (lv_at hl 5 rfl) ?_
        refine lv_if_eq (tgt := 270) hx hb dX12_send_34 (by decide) (fun c_34 => ?_) (fun c_34 => ?_)
        · have t_34 : (mo).toInt = 0 := toI_eq c_34 rfl (by decide)
          refine lv_iload hx hb dX12_send_270 (lv_at hl 4 rfl) ?_
          refine W.widen (k := 0) (n := 0) (by decide +kernel) (by decide +kernel) ?_
          exact W.iret (v := (nI sn)) hx hb hr (fun t9_ ht hW => ⟨⟨(nI sn), (f9, x4_F100, x4_F101), rfl, by (try dsimp only); exact ⟨hFl, by rw [nI_toInt (by omega)]; exact hrI, fun h9 => hEn c_34, by rw [nI_toInt (by omega)]; omega, hPa, by rw [nI_toInt (by omega)]; omega⟩, by rw [ht]; exact hP, hD⟩, hS.F ht⟩) hS.2.2 dX12_send_272
        · have t_34 : ¬ (mo).toInt = 0 := toI_neq c_34 rfl (by decide)
          refine lv_iload hx hb dX12_send_37 (lv_at hl 4 rfl) ?_
          refine lv_iload_n hx hb dX12_send_39 rfl (lv_at hl 3 rfl) ?_
          refine lv_icmp_ge (tgt := 270) hx hb dX12_send_40 (by decide) (fun c_40 => ?_) (fun c_40 => ?_)
          · have t_40 : ((sn : Nat) : Int) ≥ (am).toInt := toI_ge c_40 (nI_toInt (by omega)) rfl
            refine lv_iload hx hb dX12_send_270 (lv_at hl 4 rfl) ?_
            refine W.widen (k := 0) (n := 0) (by decide +kernel) (by decide +kernel) ?_
            exact W.iret (v := (nI sn)) hx hb hr (fun t9_ ht hW => ⟨⟨(nI sn), (f9, x4_F100, x4_F101), rfl, by (try dsimp only); exact ⟨hFl, by rw [nI_toInt (by omega)]; exact hrI, fun h9 => absurd h9 (by rw [nI_toInt (by omega)]; omega), by rw [nI_toInt (by omega)]; omega, hPa, by rw [nI_toInt (by omega)]; omega⟩, by rw [ht]; exact hP, hD⟩, hS.F ht⟩) hS.2.2 dX12_send_272
          · have t_40 : ¬ ((sn : Nat) : Int) ≥ (am).toInt := toI_nge c_40 (nI_toInt (by omega)) rfl
            refine lv_iconst (v := 0) hx hb dX12_send_43 (by decide) ?_
            refine lv_istore hx hb dX12_send_44 hl (by decide) rfl (fun ls (hl : lv_has ls _ ([(6, .int 0), (0, .ref h0), (1, .int (nI sN)), (2, .int (nI tN)), (3, .int am), (4, .int (nI sn)), (5, .int mo)])) => ?_)
            have hl : lv_has _ _ ([(0, .ref h0), (1, .int (nI sN)), (2, .int (nI tN)), (3, .int am), (4, .int (nI sn)), (6, .int (nI 0))]) := lv_sub hl [1, 2, 3, 4, 5, 0] rfl
            refine (fun (loop : ∀ (n9 : Nat) (n1 : Nat) (f1 : Nat → Int32) (H : Heap) (locs : List Loc) (ls : Array Slot), (n1 ≤ 12) → (∀ n, n < n1 → f1 n = if n = sN then 0 else 536870912) →  (12 < n1 + n9) → va_P (dC, dI) vwCl (WR a k h0 vi vj (fT (fT (fT vF 99 f9) 100 f1) 101 x4_F101) vG) H → va_D A (WR a k h0 vi vj (fT (fT (fT vF 99 f9) 100 f1) 101 x4_F101) vG) → va_S A s.heap H locs → lv_has ls 8 [(0, .ref h0), (1, .int (nI sN)), (2, .int (nI tN)), (3, .int am), (4, .int (nI sn)), (6, .int (nI n1))] → W p l e _ s m _ below meth c H locs 0 0 _ (F0 m 46 ls [])) => loop (13) 0 x4_F100 _ _ _ (by omega) (fun n hn => absurd hn (by omega)) (by omega) hP hD hS hl) ?_
            intro n9
            induction n9 with
            | zero => intro n1 f1 H locs ls hn1 hz1 hf9; exact False.elim (by omega)
            | succ n9 ih46_2 =>
              intro n1 f1 H locs ls hn1 hz1 hf46_2 hP hD hS hl
              refine lv_iload hx hb dX12_send_46 (lv_at hl 5 rfl) ?_
              refine lv_bipush (v := 12) hx hb dX12_send_48 (by decide) ?_
              refine lv_icmp_ge (tgt := 79) hx hb dX12_send_50 (by decide) (fun c_50 => ?_) (fun c_50 => ?_)
              · have t_50 : ((n1 : Nat) : Int) ≥ 12 := toI_ge c_50 (nI_toInt (by omega)) (by decide)
                have hBf0 : BfI (vF 95) (vF 96) (vF 97) (vF 98) f9 ar sN RR pp f1 x4_F101 (fun _ => 0) 0 := BfI.init hs12 hRs hps (fun n hn => hz1 n (by omega))
                refine lv_iconst (v := 1) hx hb dX12_send_79 (by decide) ?_
                refine lv_istore hx hb dX12_send_80 hl (by decide) rfl (fun ls (hl : lv_has ls _ ([(6, .int 1), (0, .ref h0), (1, .int (nI sN)), (2, .int (nI tN)), (3, .int am), (4, .int (nI sn))])) => ?_)
                have hl : lv_has _ _ ([(0, .ref h0), (1, .int (nI sN)), (2, .int (nI tN)), (3, .int am), (4, .int (nI sn)), (6, .int 1)]) := lv_sub hl [1, 2, 3, 4, 5, 0] rfl
                refine (fun (loop : ∀ (n9 : Nat) (lz : Int32) (pr1 : Nat → Int32) (bY1 : Nat → Int32) (T1 : Nat → Nat) (tm1 : Nat) (H : Heap) (locs : List Loc) (ls : Array Slot), (BfI (vF 95) (vF 96) (vF 97) (vF 98) f9 ar sN RR pp pr1 bY1 T1 tm1) → (lz = 0 → PrC (vF 95) (vF 96) (vF 97) (vF 98) f9 ar pr1) →  ((lz = 0 ∧ 0 < n9) ∨ sPr pr1 + 1 < n9) → va_P (dC, dI) vwCl (WR a k h0 vi vj (fT (fT (fT vF 99 f9) 100 pr1) 101 bY1) vG) H → va_D A (WR a k h0 vi vj (fT (fT (fT vF 99 f9) 100 pr1) 101 bY1) vG) → va_S A s.heap H locs → lv_has ls 8 [(0, .ref h0), (1, .int (nI sN)), (2, .int (nI tN)), (3, .int am), (4, .int (nI sn)), (6, .int lz)] → W p l e _ s m _ below meth c H locs 0 0 _ (F0 m 82 ls [])) => loop (sPr f1 + 2) 1 f1 x4_F101 (fun _ => 0) 0 _ _ _ (hBf0) (fun h9 => absurd h9 (by decide)) (Or.inr (by omega)) hP hD hS hl) ?_
                intro n9
                induction n9 with
                | zero => intro lz pr1 bY1 T1 tm1 H locs ls hBf1 hCl1 hf9; exact False.elim (by omega)
                | succ n9 ih82_3 =>
                  intro lz pr1 bY1 T1 tm1 H locs ls hBf1 hCl1 hf82_3 hP hD hS hl
                  have hfz := hf82_3
                  refine lv_iload hx hb dX12_send_82 (lv_at hl 5 rfl) ?_
                  refine lv_if_eq (tgt := 228) hx hb dX12_send_84 (by decide) (fun c_84 => ?_) (fun c_84 => ?_)
                  · have t_84 : (lz).toInt = 0 := toI_eq c_84 rfl (by decide)
                    have hCl9 := hCl1 c_84
                    have hbt := hBf1.1.bd hpR ht12
                    obtain ⟨rk, hTk⟩ := hBf1.rank hpR
                    have hbb : ∀ v, v < 12 → (pr1 v).toInt ≤ 536870912 ∧ (pr1 v ≠ 536870912 → (pr1 v).toInt ≤ 11000) := fun v hv => by (have h9 := hBf1.1.bd hpR hv); exact ⟨h9.2.1, fun h8 => (h9.2.2 h8).1⟩
                    refine lv_aload_n hx hb dX12_send_228 rfl (lv_at hl 0 rfl) ?_
                    refine va_get (D := (dC, dI)) (ci := 12) (v := .ref (a 100)) (C := RX12) (T := TX12) (N := 163) (fs := fM (vS a vi vj)) hx hb hts iwsRX12_send_in12 hown hK hP 0 rfl rfl 156 (by decide) (hts (.fieldLink RX12 327 "OptimaWorksModel" "price" "[I") (by decide +kernel)) (fun _ h9 => h9) rfl dX12_send_229 ?_
                    refine lv_iload_n hx hb dX12_send_232 rfl (lv_at hl 2 rfl) ?_
                    refine va_iald (cA := k 100) (n := 12) (f := pr1) hx hb hK hP 101 100 (WR_get 100 (by decide)) (TR_get 100 (by decide)) (vp_in_nI (show tN < 12 by omega) (by omega)) dX12_send_233 ?_
                    refine lv_topi (fun y2 hy2 => ?_)
                    obtain rfl : (pr1 tN) = y2 := (hy2.trans (by rw [nI_clamp (by omega)])).symm
                    refine lv_ldcw (v := 536870912) hx hb hown (hts (.constant RX12 1072 536870912) (by decide +kernel)) dX12_send_234 ?_
                    refine lv_icmp_ge (tgt := 244) hx hb dX12_send_237 (by decide) (fun c_237 => ?_) (fun c_237 => ?_)
                    · have t_237 : ((pr1 tN)).toInt ≥ 536870912 := toI_ge c_237 rfl (by decide)
                      refine lv_iconst (v := 0) hx hb dX12_send_244 (by decide) ?_
                      refine lv_istore hx hb dX12_send_245 hl (by decide) rfl (fun ls (hl : lv_has ls _ ([(5, .int 0), (0, .ref h0), (1, .int (nI sN)), (2, .int (nI tN)), (3, .int am), (4, .int (nI sn)), (6, .int lz)])) => ?_)
                      refine lv_iload hx hb dX12_send_247 (lv_at hl 0 rfl) ?_
                      refine lv_if_eq (tgt := 267) hx hb dX12_send_249 (by decide) (fun _ => ?_) (fun c9 => absurd (by decide) c9)
                      refine lv_goto (tgt := 32) hx hb dX12_send_267 (by decide) ?_
                      have hl : lv_has _ _ ([(0, .ref h0), (1, .int (nI sN)), (2, .int (nI tN)), (3, .int am), (4, .int (nI sn)), (5, .int 0)]) := lv_sub hl [1, 2, 3, 4, 5, 0] rfl
                      exact ih32_1 sn 0 f9 RR pp pr1 bY1 _ _ _ (hFl) (hPo) (hpR) (hps) (hRs) (hsn) (hrI) (hPa) (fun _ => flC_end hAr hFl hCl9 hbb hBf1.1.1 ht12 t_237) (by (have h8 := hfx.resolve_left (fun h => c_34 h.1)); exact Or.inl ⟨rfl, by omega⟩) hP hD hS hl
                    · have t_237 : ¬ ((pr1 tN)).toInt ≥ 536870912 := toI_nge c_237 rfl (by decide)
                      refine lv_iconst (v := 1) hx hb dX12_send_240 (by decide) ?_
                      refine lv_goto (tgt := 245) hx hb dX12_send_241 (by decide) ?_
                      refine lv_istore hx hb dX12_send_245 hl (by decide) rfl (fun ls (hl : lv_has ls _ ([(5, .int 1), (0, .ref h0), (1, .int (nI sN)), (2, .int (nI tN)), (3, .int am), (4, .int (nI sn)), (6, .int lz)])) => ?_)
                      refine lv_iload hx hb dX12_send_247 (lv_at hl 0 rfl) ?_
                      refine lv_if_eq (tgt := 267) hx hb dX12_send_249 (by decide) (fun c9 => absurd c9 (by decide)) (fun _ => ?_)
                      have hFm : (536870912 : Int32).toInt = 536870912 := by decide
                      have htl : pr1 tN ≠ 536870912 := fun e9 => by rw [e9, hFm] at t_237; omega
                      have hsb := subN (x := am) (n := sn) (by omega)
                      refine lv_iload hx hb dX12_send_252 (lv_at hl 5 rfl) ?_
                      refine lv_aload_n hx hb dX12_send_254 rfl (lv_at hl 1 rfl) ?_
                      refine lv_iload_n hx hb dX12_send_255 rfl (lv_at hl 2 rfl) ?_
                      refine lv_iload_n hx hb dX12_send_256 rfl (lv_at hl 3 rfl) ?_
                      refine lv_iload_n hx hb dX12_send_257 rfl (lv_at hl 4 rfl) ?_
                      refine lv_iload hx hb dX12_send_258 (lv_at hl 5 rfl) ?_
                      refine lv_isub hx hb dX12_send_260 ?_
                      have hFc := allFree hD hS hA
                      refine va_calli (va_runV (As := [.int (nI sN), .int (nI tN), .int (am - (nI sn))]) (rest := [.int (nI sn)]) ⟨hx, hb, hml, hown, hts⟩ (r_X12_push l dC dI a k h0 vi vj (fT (fT (fT vF 99 f9) 100 pr1) 101 bY1) vG ar sN tN (am - (nI sn)) rk har (by first | assumption | decide | omega | rfl) (by first | assumption | decide | omega | rfl) (by first | assumption | decide | omega | rfl) (by first | assumption | decide | omega | rfl) (hFl) (hTk) (htl) (by first | assumption | decide | omega | rfl) (by omega) H.size) (cwV 3 hts gwsRX12_send_0 rfl rfl rfl hd_yX12_push_RX12 (by decide +kernel)) (fz_pre (va_recv hK hP (ci := 12) (q0 := 0) rfl rfl) hP hK hD) rfl rfl hl.1 rfl (lv_room (Nat.le_of_ble_eq_true rfl)) dX12_send_261 (by decide +kernel)) hS (fun q _ h => hFc q h) hFc (fun r261 u t9_ H locs ht hvm hw9 hB9 hz1 hk1 hS => ?_)
                      obtain ⟨g99261, hwit261⟩ : ∃ w9, w9 = u := ⟨u, rfl⟩
                      subst hwit261
                      have hP : va_P (dC, dI) vwCl (WR a k h0 vi vj (fT (fT (fT (fT vF 99 f9) 100 pr1) 101 bY1) 99 g99261) vG) H := fz_P ht hB9.1
                      have hD : va_D A (WR a k h0 vi vj (fT (fT (fT (fT vF 99 f9) 100 pr1) 101 bY1) 99 g99261) vG) := hB9.2.weaken (fun _ q _ h => hFc q.1 h)
                      have e9 : fT (fT (fT vF 99 g99261) 100 pr1) 101 bY1 = fT (fT (fT (fT vF 99 f9) 100 pr1) 101 bY1) 99 g99261 := ((fT_sw _ _ _ (Nat.ne_of_beq_eq_false rfl)).trans (congrArg (fun g9 => fT g9 101 bY1) ((fT_sw _ _ _ (Nat.ne_of_beq_eq_false rfl)).trans (congrArg (fun g9 => fT g9 100 pr1) (fT_sm _ _ _ _))))).symm
                      rw [← e9] at hP hD
                      clear e9
                      have hP : va_P (dC, dI) vwCl (WR a k h0 vi vj (fT (fT (fT vF 99 g99261) 100 pr1) 101 bY1) vG) H := hP
                      have hD : va_D A (WR a k h0 vi vj (fT (fT (fT vF 99 g99261) 100 pr1) 101 bY1) vG) := hD
                      obtain ⟨f261_0, f261_1, f261_2, f261_3⟩ := hw9
                      have f261_1 : FlO (vF 97) g99261 ar := f261_1
                      have f261_2 : ∀ a, a < ar → g99261 a = f9 a ∨ ∃ w, w < 12 ∧ pr1 w ≠ 536870912 ∧ w ≠ sN ∧ ((bY1 w).toInt = (a : Int) + 1 ∨ (bY1 w).toInt = -((a : Int) + 1)) := f261_2
                      have f261_3 : ∀ S, rsA (((ar : Nat) : Int), (vF 95), (vF 96), (vF 97), (vF 98)) (fI g99261) S ar = rsA (((ar : Nat) : Int), (vF 95), (vF 96), (vF 97), (vF 98)) (fI f9) S ar - (sW S sN r261.toInt - sW S tN r261.toInt) := f261_3
                      have hamB := Int32.toInt_lt am
                      obtain ⟨q5, hq5, eq5⟩ := of_toInt (x := r261) (k := 2147483648) (by omega) (by omega)
                      have eq6 : (q5 : Int) = (r261).toInt := by rw [eq5, nI_toInt (by omega)]
                      refine lv_topi (fun y3 hy3 => ?_)
                      obtain rfl : (nI q5) = y3 := (hy3.trans (eq5)).symm
                      refine lv_iadd hx hb dX12_send_264 ?_
                      refine lv_topi (fun y4 hy4 => ?_)
                      obtain rfl : (nI (sn + q5)) = y4 := (hy4.trans (nI_add sn q5)).symm
                      refine lv_istore hx hb dX12_send_265 hl (by decide) rfl (fun ls (hl : lv_has ls _ ([(4, .int (nI (sn + q5))), (5, .int 1), (0, .ref h0), (1, .int (nI sN)), (2, .int (nI tN)), (3, .int am), (6, .int lz)])) => ?_)
                      refine lv_goto (tgt := 32) hx hb dX12_send_267 (by decide) ?_
                      have hl : lv_has _ _ ([(0, .ref h0), (1, .int (nI sN)), (2, .int (nI tN)), (3, .int am), (4, .int (nI (sn + q5))), (5, .int 1)]) := lv_sub hl [2, 3, 4, 5, 0, 1] rfl
                      exact ih32_1 (sn + q5) 1 g99261 (fun v => v < 12 ∧ pr1 v ≠ 536870912) (fun v => (pr1 v).toInt) pr1 bY1 _ _ _ (f261_1) (PoO.after hAr hTk hCl9 hbb f261_2) (fun v hv => (hBf1.1.bd hpR hv.1).1) (hBf1.1.1) (⟨hs12, fun e9 => by (have h9 := hBf1.1.1); rw [e9] at h9; exact absurd h9 (by decide)⟩) (Or.inr (by omega)) (hrI.more f261_3 (by omega)) (PoO.all hAr hTk hCl9 hbb f261_2 hPa) (fun h9 => absurd h9 (by decide)) (by (have h8 := hfx.resolve_left (fun h => c_34 h.1)); exact Or.inr ⟨by omega, by omega⟩) hP hD hS hl
                  · have t_84 : ¬ (lz).toInt = 0 := toI_neq c_84 rfl (by decide)
                    refine lv_iconst (v := 0) hx hb dX12_send_87 (by decide) ?_
                    refine lv_istore hx hb dX12_send_88 hl (by decide) rfl (fun ls (hl : lv_has ls _ ([(6, .int 0), (0, .ref h0), (1, .int (nI sN)), (2, .int (nI tN)), (3, .int am), (4, .int (nI sn))])) => ?_)
                    refine lv_iconst (v := 0) hx hb dX12_send_90 (by decide) ?_
                    refine lv_istore hx hb dX12_send_91 hl (by decide) rfl (fun ls (hl : lv_has ls _ ([(7, .int 0), (6, .int 0), (0, .ref h0), (1, .int (nI sN)), (2, .int (nI tN)), (3, .int am), (4, .int (nI sn))])) => ?_)
                    have hl : lv_has _ _ ([(0, .ref h0), (1, .int (nI sN)), (2, .int (nI tN)), (3, .int am), (4, .int (nI sn)), (6, .int 0), (7, .int (nI 0))]) := lv_sub hl [2, 3, 4, 5, 6, 1, 0] rfl
                    refine (fun (loop : ∀ (n9 : Nat) (a5 : Nat) (l2 : Int32) (pr2 : Nat → Int32) (bY2 : Nat → Int32) (T2 : Nat → Nat) (tm2 : Nat) (H : Heap) (locs : List Loc) (ls : Array Slot), (a5 ≤ ar) → (BfI (vF 95) (vF 96) (vF 97) (vF 98) f9 ar sN RR pp pr2 bY2 T2 tm2) → ((l2 = 0 ∧ sPr pr2 ≤ sPr pr1) ∨ sPr pr2 < sPr pr1) → (l2 = 0 → PrC (vF 95) (vF 96) (vF 97) (vF 98) f9 a5 pr2) →  (ar < a5 + n9) → va_P (dC, dI) vwCl (WR a k h0 vi vj (fT (fT (fT vF 99 f9) 100 pr2) 101 bY2) vG) H → va_D A (WR a k h0 vi vj (fT (fT (fT vF 99 f9) 100 pr2) 101 bY2) vG) → va_S A s.heap H locs → lv_has ls 8 [(0, .ref h0), (1, .int (nI sN)), (2, .int (nI tN)), (3, .int am), (4, .int (nI sn)), (6, .int l2), (7, .int (nI a5))] → W p l e _ s m _ below meth c H locs 0 0 _ (F0 m 93 ls [])) => loop (ar + 1) 0 0 pr1 bY1 T1 tm1 _ _ _ (by omega) (hBf1) (Or.inl ⟨rfl, Nat.le_refl _⟩) (fun _ a9 x9 z9 k1 => absurd k1 (by omega)) (by omega) hP hD hS hl) ?_
                    intro n9
                    induction n9 with
                    | zero => intro a5 l2 pr2 bY2 T2 tm2 H locs ls ha5 hBf2 hM2 hCl hf9; exact False.elim (by omega)
                    | succ n9 ih93_4 =>
                      intro a5 l2 pr2 bY2 T2 tm2 H locs ls ha5 hBf2 hM2 hCl hf93_4 hP hD hS hl
                      refine lv_iload hx hb dX12_send_93 (lv_at hl 6 rfl) ?_
                      refine lv_aload_n hx hb dX12_send_95 rfl (lv_at hl 0 rfl) ?_
                      refine va_get (D := (dC, dI)) (ci := 12) (v := .int (vi 150)) (C := RX12) (T := TX12) (N := 163) (fs := fM (vS a vi vj)) hx hb hts iwsRX12_send_in12 hown hK hP 0 rfl rfl 150 (by decide) (hts (.fieldLink RX12 1069 "OptimaWorksModel" "arcs" "I") (by decide +kernel)) (fun _ h9 => h9) rfl dX12_send_96 ?_
                      refine lv_topi (fun y5 hy5 => ?_)
                      obtain rfl : (nI ar) = y5 := (hy5.trans (har)).symm
                      refine lv_icmp_ge (tgt := 225) hx hb dX12_send_99 (by decide) (fun c_99 => ?_) (fun c_99 => ?_)
                      · have t_99 : ((a5 : Nat) : Int) ≥ ((ar : Nat) : Int) := toI_ge c_99 (nI_toInt (by omega)) (nI_toInt (by omega))
                        refine lv_goto (tgt := 82) hx hb dX12_send_225 (by decide) ?_
                        have hl : lv_has _ _ ([(0, .ref h0), (1, .int (nI sN)), (2, .int (nI tN)), (3, .int am), (4, .int (nI sn)), (6, .int l2)]) := lv_sub hl [0, 1, 2, 3, 4, 5] rfl
                        exact ih82_3 l2 pr2 bY2 T2 tm2 _ _ _ (hBf2) (fun h9 => by (have h8 := hCl h9); rw [show a5 = ar by omega] at h8; exact h8) (by (have h8 := hfz.resolve_left (fun h => c_84 h.1)); rcases hM2 with ⟨h1, h2⟩ | h1; (exact Or.inl ⟨h1, by omega⟩); (exact Or.inr (by omega))) hP hD hS hl
                      · have t_99 : ¬ ((a5 : Nat) : Int) ≥ ((ar : Nat) : Int) := toI_nge c_99 (nI_toInt (by omega)) (nI_toInt (by omega))
                        obtain ⟨x5, yB, hx5, hyB, hxy5, ex5, eyB, hr5, hc5⟩ := hAr a5 (by omega)
                        have hbx := hBf2.1.bd hpR hx5
                        have hby := hBf2.1.bd hpR hyB
                        have hpo := hPo a5 x5 yB (by omega) hx5 hyB ex5 eyB
                        refine lv_aload_n hx hb dX12_send_102 rfl (lv_at hl 0 rfl) ?_
                        refine va_get (D := (dC, dI)) (ci := 12) (v := .ref (a 99)) (C := RX12) (T := TX12) (N := 163) (fs := fM (vS a vi vj)) hx hb hts iwsRX12_send_in12 hown hK hP 0 rfl rfl 155 (by decide) (hts (.fieldLink RX12 324 "OptimaWorksModel" "flow" "[I") (by decide +kernel)) (fun _ h9 => h9) rfl dX12_send_103 ?_
                        refine lv_iload hx hb dX12_send_106 (lv_at hl 6 rfl) ?_
                        refine va_iald (cA := k 99) (n := 40) (f := f9) hx hb hK hP 100 99 (WR_get 99 (by decide)) (TR_get 99 (by decide)) (vp_in_nI (show a5 < 40 by omega) (by omega)) dX12_send_108 ?_
                        refine lv_topi (fun y6 hy6 => ?_)
                        obtain rfl : (f9 a5) = y6 := (hy6.trans (by rw [nI_clamp (by omega)])).symm
                        refine lv_aload_n hx hb dX12_send_109 rfl (lv_at hl 0 rfl) ?_
                        refine va_get (D := (dC, dI)) (ci := 12) (v := .ref (a 97)) (C := RX12) (T := TX12) (N := 163) (fs := fM (vS a vi vj)) hx hb hts iwsRX12_send_in12 hown hK hP 0 rfl rfl 153 (by decide) (hts (.fieldLink RX12 318 "OptimaWorksModel" "arcRoom" "[I") (by decide +kernel)) (fun _ h9 => h9) rfl dX12_send_110 ?_
                        refine lv_iload hx hb dX12_send_113 (lv_at hl 6 rfl) ?_
                        refine va_iald (cA := k 97) (n := 40) (f := (vF 97)) hx hb hK hP 98 97 (WR_get 97 (by decide)) (TR_get 97 (by decide)) (vp_in_nI (show a5 < 40 by omega) (by omega)) dX12_send_115 ?_
                        refine lv_topi (fun y7 hy7 => ?_)
                        obtain rfl : ((vF 97) a5) = y7 := (hy7.trans (by rw [nI_clamp (by omega)])).symm
                        refine W.cut (pc := 163) (fun H locs ls stk => ∃ (l3 : Int32) (pr3 : Nat → Int32) (bY3 : Nat → Int32) (T3 : Nat → Nat) (tm3 : Nat), (BfI (vF 95) (vF 96) (vF 97) (vF 98) f9 ar sN RR pp pr3 bY3 T3 tm3) ∧ ((l3 = 0 ∧ sPr pr3 ≤ sPr pr1) ∨ sPr pr3 < sPr pr1) ∧ (l3 = 0 → PrC (vF 95) (vF 96) (vF 97) (vF 98) f9 a5 pr3 ∧ ((f9 a5).toInt < (vF 97 a5).toInt → pr3 x5 ≠ 536870912 → (pr3 yB).toInt ≤ (pr3 x5).toInt + (vF 98 a5).toInt)) ∧  stk = [] ∧ va_P (dC, dI) vwCl (WR a k h0 vi vj (fT (fT (fT vF 99 f9) 100 pr3) 101 bY3) vG) H ∧ va_D A (WR a k h0 vi vj (fT (fT (fT vF 99 f9) 100 pr3) 101 bY3) vG) ∧ va_S A s.heap H locs ∧ lv_has ls 8 [(0, .ref h0), (1, .int (nI sN)), (2, .int (nI tN)), (3, .int am), (4, .int (nI sn)), (6, .int l3), (7, .int (nI a5))]) (fun join1 => ?_) ?_
                        · refine lv_icmp_ge (tgt := 163) hx hb dX12_send_116 (by decide) (fun c_116 => ?_) (fun c_116 => ?_)
                          · have t_116 : ((f9 a5)).toInt ≥ (((vF 97) a5)).toInt := toI_ge c_116 rfl rfl
                            have hl : lv_has _ _ ([(0, .ref h0), (1, .int (nI sN)), (2, .int (nI tN)), (3, .int am), (4, .int (nI sn)), (6, .int l2), (7, .int (nI a5))]) := lv_sub hl [0, 1, 2, 3, 4, 5, 6] rfl
                            exact join1 _ _ _ _ ⟨l2, pr2, bY2, T2, tm2, hBf2, hM2, fun h9 => ⟨hCl h9, fun h8 => absurd h8 (by omega)⟩, rfl, hP, hD, hS, hl⟩
                          · have t_116 : ¬ ((f9 a5)).toInt ≥ (((vF 97) a5)).toInt := toI_nge c_116 rfl rfl
                            refine lv_aload_n hx hb dX12_send_119 rfl (lv_at hl 0 rfl) ?_
                            refine lv_aload_n hx hb dX12_send_120 rfl (lv_at hl 0 rfl) ?_
                            refine va_get (D := (dC, dI)) (ci := 12) (v := .ref (a 95)) (C := RX12) (T := TX12) (N := 163) (fs := fM (vS a vi vj)) hx hb hts iwsRX12_send_in12 hown hK hP 0 rfl rfl 151 (by decide) (hts (.fieldLink RX12 312 "OptimaWorksModel" "arcFrom" "[I") (by decide +kernel)) (fun _ h9 => h9) rfl dX12_send_121 ?_
                            refine lv_iload hx hb dX12_send_124 (lv_at hl 6 rfl) ?_
                            refine va_iald (cA := k 95) (n := 40) (f := (vF 95)) hx hb hK hP 96 95 (WR_get 95 (by decide)) (TR_get 95 (by decide)) (vp_in_nI (show a5 < 40 by omega) (by omega)) dX12_send_126 ?_
                            refine lv_topi (fun y8 hy8 => ?_)
                            obtain rfl : ((vF 95) a5) = y8 := (hy8.trans (by rw [nI_clamp (by omega)])).symm
                            refine lv_topi (fun y9 hy9 => ?_)
                            obtain rfl : (nI x5) = y9 := (hy9.trans (ex5)).symm
                            refine lv_aload_n hx hb dX12_send_127 rfl (lv_at hl 0 rfl) ?_
                            refine va_get (D := (dC, dI)) (ci := 12) (v := .ref (a 96)) (C := RX12) (T := TX12) (N := 163) (fs := fM (vS a vi vj)) hx hb hts iwsRX12_send_in12 hown hK hP 0 rfl rfl 152 (by decide) (hts (.fieldLink RX12 315 "OptimaWorksModel" "arcTo" "[I") (by decide +kernel)) (fun _ h9 => h9) rfl dX12_send_128 ?_
                            refine lv_iload hx hb dX12_send_131 (lv_at hl 6 rfl) ?_
                            refine va_iald (cA := k 96) (n := 40) (f := (vF 96)) hx hb hK hP 97 96 (WR_get 96 (by decide)) (TR_get 96 (by decide)) (vp_in_nI (show a5 < 40 by omega) (by omega)) dX12_send_133 ?_
                            refine lv_topi (fun y10 hy10 => ?_)
                            obtain rfl : ((vF 96) a5) = y10 := (hy10.trans (by rw [nI_clamp (by omega)])).symm
                            refine lv_topi (fun y11 hy11 => ?_)
                            obtain rfl : (nI yB) = y11 := (hy11.trans (eyB)).symm
                            refine lv_aload_n hx hb dX12_send_134 rfl (lv_at hl 0 rfl) ?_
                            refine va_get (D := (dC, dI)) (ci := 12) (v := .ref (a 98)) (C := RX12) (T := TX12) (N := 163) (fs := fM (vS a vi vj)) hx hb hts iwsRX12_send_in12 hown hK hP 0 rfl rfl 154 (by decide) (hts (.fieldLink RX12 321 "OptimaWorksModel" "arcCost" "[I") (by decide +kernel)) (fun _ h9 => h9) rfl dX12_send_135 ?_
                            refine lv_iload hx hb dX12_send_138 (lv_at hl 6 rfl) ?_
                            refine va_iald (cA := k 98) (n := 40) (f := (vF 98)) hx hb hK hP 99 98 (WR_get 98 (by decide)) (TR_get 98 (by decide)) (vp_in_nI (show a5 < 40 by omega) (by omega)) dX12_send_140 ?_
                            refine lv_topi (fun y12 hy12 => ?_)
                            obtain rfl : ((vF 98) a5) = y12 := (hy12.trans (by rw [nI_clamp (by omega)])).symm
                            refine lv_iload hx hb dX12_send_141 (lv_at hl 6 rfl) ?_
                            refine lv_iconst (v := 1) hx hb dX12_send_143 (by decide) ?_
                            refine lv_iadd hx hb dX12_send_144 ?_
                            refine lv_topi (fun y13 hy13 => ?_)
                            obtain rfl : (nI (a5 + 1)) = y13 := (hy13.trans (nI_add a5 1)).symm
                            have hFc := allFree hD hS hA
                            refine va_calli (va_runV (As := [.int (nI x5), .int (nI yB), .int ((vF 98) a5), .int (nI (a5 + 1))]) (rest := []) ⟨hx, hb, hml, hown, hts⟩ (r_X12_relax l dC dI a k h0 vi vj (fT (fT (fT vF 99 f9) 100 pr2) 101 bY2) vG x5 yB ((vF 98) a5) (nI (a5 + 1)) (by first | assumption | decide | omega | rfl) (by first | assumption | decide | omega | rfl) (⟨hbx.1, hbx.2.1⟩) (⟨hby.1, hby.2.1⟩) (by first | assumption | decide | omega | rfl) H.size) (cwV 4 hts gwsRX12_send_1 rfl rfl rfl hd_yX12_relax_RX12 (by decide +kernel)) (fz_pre (va_recv hK hP (ci := 12) (q0 := 0) rfl rfl) hP hK hD) rfl rfl hl.1 rfl (lv_room (Nat.le_of_ble_eq_true rfl)) dX12_send_145 (by decide +kernel)) hS (fun q _ h => hFc q h) hFc (fun r145 u t9_ H locs ht hvm hw9 hB9 hz1 hk1 hS => ?_)
                            obtain ⟨g100145, g101145⟩ := u
                            try dsimp only at hw9 hB9
                            have hP : va_P (dC, dI) vwCl (WR a k h0 vi vj (fT (fT (fT (fT (fT vF 99 f9) 100 pr2) 101 bY2) 100 g100145) 101 g101145) vG) H := fz_P ht hB9.1
                            have hD : va_D A (WR a k h0 vi vj (fT (fT (fT (fT (fT vF 99 f9) 100 pr2) 101 bY2) 100 g100145) 101 g101145) vG) := hB9.2.weaken (fun _ q _ h => hFc q.1 h)
                            have e9 : fT (fT (fT vF 99 f9) 100 g100145) 101 g101145 = fT (fT (fT (fT (fT vF 99 f9) 100 pr2) 101 bY2) 100 g100145) 101 g101145 := ((congrArg (fun g9 => fT g9 101 g101145) ((fT_sw _ _ _ (Nat.ne_of_beq_eq_false rfl)).trans (congrArg (fun g9 => fT g9 101 bY2) (fT_sm _ _ _ _)))).trans (fT_sm _ _ _ _)).symm
                            rw [← e9] at hP hD
                            clear e9
                            have hP : va_P (dC, dI) vwCl (WR a k h0 vi vj (fT (fT (fT vF 99 f9) 100 g100145) 101 g101145) vG) H := hP
                            have hD : va_D A (WR a k h0 vi vj (fT (fT (fT vF 99 f9) 100 g100145) 101 g101145) vG) := hD
                            rcases hw9 with ⟨rfl, f145_0, f145_1, f145_2, f145_3, f145_4, f145_5⟩ | ⟨rfl, f145_0, f145_1, f145_2⟩
                            · have f145_0 : pr2 x5 ≠ 536870912 := f145_0
                              have f145_1 : (pr2 x5).toInt + (((vF 98) a5)).toInt < (pr2 yB).toInt := f145_1
                              have f145_2 : (g100145 yB).toInt = (pr2 x5).toInt + (((vF 98) a5)).toInt := f145_2
                              have f145_3 : ∀ w, w ≠ yB → g100145 w = pr2 w := f145_3
                              have f145_5 : ∀ w, w ≠ yB → g101145 w = bY2 w := f145_5
                              obtain ⟨hBfn, hSn⟩ := hBf2.relax hpR hps hx5 hyB hxy5 (by omega) ⟨by omega, Or.inl ⟨by rw [nI_toInt (by omega)]; omega, ex5, eyB, by omega, rfl⟩⟩ (fun h9 => hpo.1 (by omega) h9) f145_0 f145_1 f145_2 f145_3 f145_4 f145_5
                              refine lv_if_ne (tgt := 156) hx hb dX12_send_148 (by decide) (fun _ => ?_) (fun c9 => absurd c9 (by decide))
                              refine lv_iconst (v := 1) hx hb dX12_send_156 (by decide) ?_
                              refine lv_goto (tgt := 161) hx hb dX12_send_157 (by decide) ?_
                              refine lv_istore hx hb dX12_send_161 hl (by decide) rfl (fun ls (hl : lv_has ls _ ([(6, .int 1), (0, .ref h0), (1, .int (nI sN)), (2, .int (nI tN)), (3, .int am), (4, .int (nI sn)), (7, .int (nI a5))])) => ?_)
                              have hl : lv_has _ _ ([(0, .ref h0), (1, .int (nI sN)), (2, .int (nI tN)), (3, .int am), (4, .int (nI sn)), (6, .int 1), (7, .int (nI a5))]) := lv_sub hl [1, 2, 3, 4, 5, 0, 6] rfl
                              exact join1 _ _ _ _ ⟨1, g100145, g101145, (fun w => if w = yB then tm2 + 1 else T2 w), (tm2 + 1), hBfn, by rcases hM2 with ⟨h1, h2⟩ | h1; (exact Or.inr (by omega)); (exact Or.inr (by omega)), fun h9 => absurd h9 (by decide), rfl, hP, hD, hS, hl⟩
                            · have f145_0 : g100145 = pr2 := f145_0
                              have f145_1 : g101145 = bY2 := f145_1
                              have f145_2 : pr2 x5 ≠ 536870912 → (pr2 yB).toInt ≤ (pr2 x5).toInt + (((vF 98) a5)).toInt := f145_2
                              refine lv_if_ne (tgt := 156) hx hb dX12_send_148 (by decide) (fun c9 => absurd c9 (by decide)) (fun _ => ?_)
                              refine lv_iload hx hb dX12_send_151 (lv_at hl 5 rfl) ?_
                              refine lv_if_eq (tgt := 160) hx hb dX12_send_153 (by decide) (fun c_153 => ?_) (fun c_153 => ?_)
                              · have t_153 : (l2).toInt = 0 := toI_eq c_153 rfl (by decide)
                                refine lv_iconst (v := 0) hx hb dX12_send_160 (by decide) ?_
                                refine lv_istore hx hb dX12_send_161 hl (by decide) rfl (fun ls (hl : lv_has ls _ ([(6, .int 0), (0, .ref h0), (1, .int (nI sN)), (2, .int (nI tN)), (3, .int am), (4, .int (nI sn)), (7, .int (nI a5))])) => ?_)
                                have hl : lv_has _ _ ([(0, .ref h0), (1, .int (nI sN)), (2, .int (nI tN)), (3, .int am), (4, .int (nI sn)), (6, .int 0), (7, .int (nI a5))]) := lv_sub hl [1, 2, 3, 4, 5, 0, 6] rfl
                                exact join1 _ _ _ _ ⟨0, g100145, g101145, T2, tm2, by rw [f145_0, f145_1]; exact hBf2, by rw [f145_0]; rcases hM2 with ⟨h1, h2⟩ | h1; (exact Or.inl ⟨rfl, h2⟩); (exact Or.inr h1), fun _ => by rw [f145_0]; exact ⟨hCl c_153, fun _ h7 => f145_2 h7⟩, rfl, hP, hD, hS, hl⟩
                              · have t_153 : ¬ (l2).toInt = 0 := toI_neq c_153 rfl (by decide)
                                refine lv_iconst (v := 1) hx hb dX12_send_156 (by decide) ?_
                                refine lv_goto (tgt := 161) hx hb dX12_send_157 (by decide) ?_
                                refine lv_istore hx hb dX12_send_161 hl (by decide) rfl (fun ls (hl : lv_has ls _ ([(6, .int 1), (0, .ref h0), (1, .int (nI sN)), (2, .int (nI tN)), (3, .int am), (4, .int (nI sn)), (7, .int (nI a5))])) => ?_)
                                have hl : lv_has _ _ ([(0, .ref h0), (1, .int (nI sN)), (2, .int (nI tN)), (3, .int am), (4, .int (nI sn)), (6, .int 1), (7, .int (nI a5))]) := lv_sub hl [1, 2, 3, 4, 5, 0, 6] rfl
                                exact join1 _ _ _ _ ⟨1, g100145, g101145, T2, tm2, by rw [f145_0, f145_1]; exact hBf2, by rw [f145_0]; exact Or.inr (hM2.resolve_left (fun h => c_153 h.1)), fun h9 => absurd h9 (by decide), rfl, hP, hD, hS, hl⟩
                        · rintro H locs ls stk ⟨l3, pr3, bY3, T3, tm3, hBf3, hM3, hCl3, rfl, hP, hD, hS, hl⟩
                          have hbx3 := hBf3.1.bd hpR hx5
                          have hby3 := hBf3.1.bd hpR hyB
                          have hnc := (neg32 (x := vF 98 a5) (b := 1000) (by omega) (by decide)).2
                          refine lv_aload_n hx hb dX12_send_163 rfl (lv_at hl 0 rfl) ?_
                          refine va_get (D := (dC, dI)) (ci := 12) (v := .ref (a 99)) (C := RX12) (T := TX12) (N := 163) (fs := fM (vS a vi vj)) hx hb hts iwsRX12_send_in12 hown hK hP 0 rfl rfl 155 (by decide) (hts (.fieldLink RX12 324 "OptimaWorksModel" "flow" "[I") (by decide +kernel)) (fun _ h9 => h9) rfl dX12_send_164 ?_
                          refine lv_iload hx hb dX12_send_167 (lv_at hl 6 rfl) ?_
                          refine va_iald (cA := k 99) (n := 40) (f := f9) hx hb hK hP 100 99 (WR_get 99 (by decide)) (TR_get 99 (by decide)) (vp_in_nI (show a5 < 40 by omega) (by omega)) dX12_send_169 ?_
                          refine lv_topi (fun y14 hy14 => ?_)
                          obtain rfl : (f9 a5) = y14 := (hy14.trans (by rw [nI_clamp (by omega)])).symm
                          refine W.cut (pc := 219) (fun H locs ls stk => ∃ (l4 : Int32) (pr4 : Nat → Int32) (bY4 : Nat → Int32) (T4 : Nat → Nat) (tm4 : Nat), (BfI (vF 95) (vF 96) (vF 97) (vF 98) f9 ar sN RR pp pr4 bY4 T4 tm4) ∧ ((l4 = 0 ∧ sPr pr4 ≤ sPr pr1) ∨ sPr pr4 < sPr pr1) ∧ (l4 = 0 → PrC (vF 95) (vF 96) (vF 97) (vF 98) f9 (a5 + 1) pr4) ∧  stk = [] ∧ va_P (dC, dI) vwCl (WR a k h0 vi vj (fT (fT (fT vF 99 f9) 100 pr4) 101 bY4) vG) H ∧ va_D A (WR a k h0 vi vj (fT (fT (fT vF 99 f9) 100 pr4) 101 bY4) vG) ∧ va_S A s.heap H locs ∧ lv_has ls 8 [(0, .ref h0), (1, .int (nI sN)), (2, .int (nI tN)), (3, .int am), (4, .int (nI sn)), (6, .int l4), (7, .int (nI a5))]) (fun join2 => ?_) ?_
                          · refine lv_if_le (tgt := 219) hx hb dX12_send_170 (by decide) (fun c_170 => ?_) (fun c_170 => ?_)
                            · have t_170 : ((f9 a5)).toInt ≤ 0 := toI_le c_170 rfl (by decide)
                              have hl : lv_has _ _ ([(0, .ref h0), (1, .int (nI sN)), (2, .int (nI tN)), (3, .int am), (4, .int (nI sn)), (6, .int l3), (7, .int (nI a5))]) := lv_sub hl [0, 1, 2, 3, 4, 5, 6] rfl
                              exact join2 _ _ _ _ ⟨l3, pr3, bY3, T3, tm3, hBf3, hM3, fun h9 => fun a9 x9 z9 k1 k2 k3 k4 k5 => by by_cases e9 : a9 = a5; (subst e9; (have ezx : x9 = x5 := (nI_eq (by omega) (by omega)).mp (k4.symm.trans ex5)); (have ezy : z9 = yB := (nI_eq (by omega) (by omega)).mp (k5.symm.trans eyB)); subst ezx ezy; exact ⟨(hCl3 h9).2, fun h8 => absurd h8 (by omega)⟩); (exact (hCl3 h9).1 a9 x9 z9 (by omega) k2 k3 k4 k5), rfl, hP, hD, hS, hl⟩
                            · have t_170 : ¬ ((f9 a5)).toInt ≤ 0 := toI_nle c_170 rfl (by decide)
                              refine lv_aload_n hx hb dX12_send_173 rfl (lv_at hl 0 rfl) ?_
                              refine lv_aload_n hx hb dX12_send_174 rfl (lv_at hl 0 rfl) ?_
                              refine va_get (D := (dC, dI)) (ci := 12) (v := .ref (a 96)) (C := RX12) (T := TX12) (N := 163) (fs := fM (vS a vi vj)) hx hb hts iwsRX12_send_in12 hown hK hP 0 rfl rfl 152 (by decide) (hts (.fieldLink RX12 315 "OptimaWorksModel" "arcTo" "[I") (by decide +kernel)) (fun _ h9 => h9) rfl dX12_send_175 ?_
                              refine lv_iload hx hb dX12_send_178 (lv_at hl 6 rfl) ?_
                              refine va_iald (cA := k 96) (n := 40) (f := (vF 96)) hx hb hK hP 97 96 (WR_get 96 (by decide)) (TR_get 96 (by decide)) (vp_in_nI (show a5 < 40 by omega) (by omega)) dX12_send_180 ?_
                              refine lv_topi (fun y15 hy15 => ?_)
                              obtain rfl : ((vF 96) a5) = y15 := (hy15.trans (by rw [nI_clamp (by omega)])).symm
                              refine lv_topi (fun y16 hy16 => ?_)
                              obtain rfl : (nI yB) = y16 := (hy16.trans (eyB)).symm
                              refine lv_aload_n hx hb dX12_send_181 rfl (lv_at hl 0 rfl) ?_
                              refine va_get (D := (dC, dI)) (ci := 12) (v := .ref (a 95)) (C := RX12) (T := TX12) (N := 163) (fs := fM (vS a vi vj)) hx hb hts iwsRX12_send_in12 hown hK hP 0 rfl rfl 151 (by decide) (hts (.fieldLink RX12 312 "OptimaWorksModel" "arcFrom" "[I") (by decide +kernel)) (fun _ h9 => h9) rfl dX12_send_182 ?_
                              refine lv_iload hx hb dX12_send_185 (lv_at hl 6 rfl) ?_
                              refine va_iald (cA := k 95) (n := 40) (f := (vF 95)) hx hb hK hP 96 95 (WR_get 95 (by decide)) (TR_get 95 (by decide)) (vp_in_nI (show a5 < 40 by omega) (by omega)) dX12_send_187 ?_
                              refine lv_topi (fun y17 hy17 => ?_)
                              obtain rfl : ((vF 95) a5) = y17 := (hy17.trans (by rw [nI_clamp (by omega)])).symm
                              refine lv_topi (fun y18 hy18 => ?_)
                              obtain rfl : (nI x5) = y18 := (hy18.trans (ex5)).symm
                              refine lv_aload_n hx hb dX12_send_188 rfl (lv_at hl 0 rfl) ?_
                              refine va_get (D := (dC, dI)) (ci := 12) (v := .ref (a 98)) (C := RX12) (T := TX12) (N := 163) (fs := fM (vS a vi vj)) hx hb hts iwsRX12_send_in12 hown hK hP 0 rfl rfl 154 (by decide) (hts (.fieldLink RX12 321 "OptimaWorksModel" "arcCost" "[I") (by decide +kernel)) (fun _ h9 => h9) rfl dX12_send_189 ?_
                              refine lv_iload hx hb dX12_send_192 (lv_at hl 6 rfl) ?_
                              refine va_iald (cA := k 98) (n := 40) (f := (vF 98)) hx hb hK hP 99 98 (WR_get 98 (by decide)) (TR_get 98 (by decide)) (vp_in_nI (show a5 < 40 by omega) (by omega)) dX12_send_194 ?_
                              refine lv_topi (fun y19 hy19 => ?_)
                              obtain rfl : ((vF 98) a5) = y19 := (hy19.trans (by rw [nI_clamp (by omega)])).symm
                              refine lv_ineg hx hb dX12_send_195 ?_
                              refine lv_iload hx hb dX12_send_196 (lv_at hl 6 rfl) ?_
                              refine lv_ineg hx hb dX12_send_198 ?_
                              refine lv_iconst (v := 1) hx hb dX12_send_199 (by decide) ?_
                              refine lv_isub hx hb dX12_send_200 ?_
                              have hFc := allFree hD hS hA
                              refine va_calli (va_runV (As := [.int (nI yB), .int (nI x5), .int (-((vF 98) a5)), .int ((-(nI a5)) - 1)]) (rest := []) ⟨hx, hb, hml, hown, hts⟩ (r_X12_relax l dC dI a k h0 vi vj (fT (fT (fT vF 99 f9) 100 pr3) 101 bY3) vG yB x5 (-((vF 98) a5)) ((-(nI a5)) - 1) (by first | assumption | decide | omega | rfl) (by first | assumption | decide | omega | rfl) (⟨hby3.1, hby3.2.1⟩) (⟨hbx3.1, hbx3.2.1⟩) (by rw [hnc]; omega) H.size) (cwV 4 hts gwsRX12_send_1 rfl rfl rfl hd_yX12_relax_RX12 (by decide +kernel)) (fz_pre (va_recv hK hP (ci := 12) (q0 := 0) rfl rfl) hP hK hD) rfl rfl hl.1 rfl (lv_room (Nat.le_of_ble_eq_true rfl)) dX12_send_201 (by decide +kernel)) hS (fun q _ h => hFc q h) hFc (fun r201 u t9_ H locs ht hvm hw9 hB9 hz1 hk1 hS => ?_)
                              obtain ⟨g100201, g101201⟩ := u
                              try dsimp only at hw9 hB9
                              have hP : va_P (dC, dI) vwCl (WR a k h0 vi vj (fT (fT (fT (fT (fT vF 99 f9) 100 pr3) 101 bY3) 100 g100201) 101 g101201) vG) H := fz_P ht hB9.1
                              have hD : va_D A (WR a k h0 vi vj (fT (fT (fT (fT (fT vF 99 f9) 100 pr3) 101 bY3) 100 g100201) 101 g101201) vG) := hB9.2.weaken (fun _ q _ h => hFc q.1 h)
                              have e9 : fT (fT (fT vF 99 f9) 100 g100201) 101 g101201 = fT (fT (fT (fT (fT vF 99 f9) 100 pr3) 101 bY3) 100 g100201) 101 g101201 := ((congrArg (fun g9 => fT g9 101 g101201) ((fT_sw _ _ _ (Nat.ne_of_beq_eq_false rfl)).trans (congrArg (fun g9 => fT g9 101 bY3) (fT_sm _ _ _ _)))).trans (fT_sm _ _ _ _)).symm
                              rw [← e9] at hP hD
                              clear e9
                              have hP : va_P (dC, dI) vwCl (WR a k h0 vi vj (fT (fT (fT vF 99 f9) 100 g100201) 101 g101201) vG) H := hP
                              have hD : va_D A (WR a k h0 vi vj (fT (fT (fT vF 99 f9) 100 g100201) 101 g101201) vG) := hD
                              rcases hw9 with ⟨rfl, f201_0, f201_1, f201_2, f201_3, f201_4, f201_5⟩ | ⟨rfl, f201_0, f201_1, f201_2⟩
                              · have f201_0 : pr3 yB ≠ 536870912 := f201_0
                                have f201_1 : (pr3 yB).toInt + ((-((vF 98) a5))).toInt < (pr3 x5).toInt := f201_1
                                have f201_2 : (g100201 x5).toInt = (pr3 yB).toInt + ((-((vF 98) a5))).toInt := f201_2
                                have f201_3 : ∀ w, w ≠ x5 → g100201 w = pr3 w := f201_3
                                have f201_5 : ∀ w, w ≠ x5 → g101201 w = bY3 w := f201_5
                                obtain ⟨hBfn, hSn⟩ := hBf3.relax (c := (-(vF 98 a5)).toInt) hpR hps hyB hx5 (Ne.symm hxy5) (by omega) ⟨by omega, Or.inr ⟨bneg (by omega), eyB, ex5, by omega, hnc⟩⟩ (fun h9 => by rw [hnc]; (have h8 := hpo.2 (by omega) h9); exact ⟨h8.1, by omega⟩) f201_0 f201_1 f201_2 f201_3 f201_4 f201_5
                                refine lv_if_ne (tgt := 212) hx hb dX12_send_204 (by decide) (fun _ => ?_) (fun c9 => absurd c9 (by decide))
                                refine lv_iconst (v := 1) hx hb dX12_send_212 (by decide) ?_
                                refine lv_goto (tgt := 217) hx hb dX12_send_213 (by decide) ?_
                                refine lv_istore hx hb dX12_send_217 hl (by decide) rfl (fun ls (hl : lv_has ls _ ([(6, .int 1), (0, .ref h0), (1, .int (nI sN)), (2, .int (nI tN)), (3, .int am), (4, .int (nI sn)), (7, .int (nI a5))])) => ?_)
                                have hl : lv_has _ _ ([(0, .ref h0), (1, .int (nI sN)), (2, .int (nI tN)), (3, .int am), (4, .int (nI sn)), (6, .int 1), (7, .int (nI a5))]) := lv_sub hl [1, 2, 3, 4, 5, 0, 6] rfl
                                exact join2 _ _ _ _ ⟨1, g100201, g101201, (fun w => if w = x5 then tm3 + 1 else T3 w), (tm3 + 1), hBfn, by rcases hM3 with ⟨h1, h2⟩ | h1; (exact Or.inr (by omega)); (exact Or.inr (by omega)), fun h9 => absurd h9 (by decide), rfl, hP, hD, hS, hl⟩
                              · have f201_0 : g100201 = pr3 := f201_0
                                have f201_1 : g101201 = bY3 := f201_1
                                have f201_2 : pr3 yB ≠ 536870912 → (pr3 x5).toInt ≤ (pr3 yB).toInt + ((-((vF 98) a5))).toInt := f201_2
                                refine lv_if_ne (tgt := 212) hx hb dX12_send_204 (by decide) (fun c9 => absurd c9 (by decide)) (fun _ => ?_)
                                refine lv_iload hx hb dX12_send_207 (lv_at hl 5 rfl) ?_
                                refine lv_if_eq (tgt := 216) hx hb dX12_send_209 (by decide) (fun c_209 => ?_) (fun c_209 => ?_)
                                · have t_209 : (l3).toInt = 0 := toI_eq c_209 rfl (by decide)
                                  refine lv_iconst (v := 0) hx hb dX12_send_216 (by decide) ?_
                                  refine lv_istore hx hb dX12_send_217 hl (by decide) rfl (fun ls (hl : lv_has ls _ ([(6, .int 0), (0, .ref h0), (1, .int (nI sN)), (2, .int (nI tN)), (3, .int am), (4, .int (nI sn)), (7, .int (nI a5))])) => ?_)
                                  have hl : lv_has _ _ ([(0, .ref h0), (1, .int (nI sN)), (2, .int (nI tN)), (3, .int am), (4, .int (nI sn)), (6, .int 0), (7, .int (nI a5))]) := lv_sub hl [1, 2, 3, 4, 5, 0, 6] rfl
                                  exact join2 _ _ _ _ ⟨0, g100201, g101201, T3, tm3, by rw [f201_0, f201_1]; exact hBf3, by rw [f201_0]; rcases hM3 with ⟨h1, h2⟩ | h1; (exact Or.inl ⟨rfl, h2⟩); (exact Or.inr h1), fun _ => by rw [f201_0]; exact fun a9 x9 z9 k1 k2 k3 k4 k5 => by by_cases e9 : a9 = a5; (subst e9; (have ezx : x9 = x5 := (nI_eq (by omega) (by omega)).mp (k4.symm.trans ex5)); (have ezy : z9 = yB := (nI_eq (by omega) (by omega)).mp (k5.symm.trans eyB)); subst ezx ezy; exact ⟨(hCl3 c_209).2, fun _ h7 => by (have h6 := f201_2 h7); rw [hnc] at h6; omega⟩); (exact (hCl3 c_209).1 a9 x9 z9 (by omega) k2 k3 k4 k5), rfl, hP, hD, hS, hl⟩
                                · have t_209 : ¬ (l3).toInt = 0 := toI_neq c_209 rfl (by decide)
                                  refine lv_iconst (v := 1) hx hb dX12_send_212 (by decide) ?_
                                  refine lv_goto (tgt := 217) hx hb dX12_send_213 (by decide) ?_
                                  refine lv_istore hx hb dX12_send_217 hl (by decide) rfl (fun ls (hl : lv_has ls _ ([(6, .int 1), (0, .ref h0), (1, .int (nI sN)), (2, .int (nI tN)), (3, .int am), (4, .int (nI sn)), (7, .int (nI a5))])) => ?_)
                                  have hl : lv_has _ _ ([(0, .ref h0), (1, .int (nI sN)), (2, .int (nI tN)), (3, .int am), (4, .int (nI sn)), (6, .int 1), (7, .int (nI a5))]) := lv_sub hl [1, 2, 3, 4, 5, 0, 6] rfl
                                  exact join2 _ _ _ _ ⟨1, g100201, g101201, T3, tm3, by rw [f201_0, f201_1]; exact hBf3, by rw [f201_0]; exact Or.inr (hM3.resolve_left (fun h => c_209 h.1)), fun h9 => absurd h9 (by decide), rfl, hP, hD, hS, hl⟩
                          · rintro H locs ls stk ⟨l4, pr4, bY4, T4, tm4, hBf4, hM4, hCl4, rfl, hP, hD, hS, hl⟩
                            refine lv_iinc (v := (nI (a5 + 1))) hx hb dX12_send_219 hl (k := 6) rfl (nI_add a5 1) (by decide) rfl (fun ls (hl : lv_has ls _ ([(7, .int (nI (a5 + 1))), (0, .ref h0), (1, .int (nI sN)), (2, .int (nI tN)), (3, .int am), (4, .int (nI sn)), (6, .int l4)])) => ?_)
                            refine lv_goto (tgt := 93) hx hb dX12_send_222 (by decide) ?_
                            have hl : lv_has _ _ ([(0, .ref h0), (1, .int (nI sN)), (2, .int (nI tN)), (3, .int am), (4, .int (nI sn)), (6, .int l4), (7, .int (nI (a5 + 1)))]) := lv_sub hl [1, 2, 3, 4, 5, 6, 0] rfl
                            exact ih93_4 (a5 + 1) l4 pr4 bY4 T4 tm4 _ _ _ (by omega) (hBf4) (hM4) (hCl4) (by omega) hP hD hS hl
              · have t_50 : ¬ ((n1 : Nat) : Int) ≥ 12 := toI_nge c_50 (nI_toInt (by omega)) (by decide)
                refine lv_aload_n hx hb dX12_send_53 rfl (lv_at hl 0 rfl) ?_
                refine va_get (D := (dC, dI)) (ci := 12) (v := .ref (a 100)) (C := RX12) (T := TX12) (N := 163) (fs := fM (vS a vi vj)) hx hb hts iwsRX12_send_in12 hown hK hP 0 rfl rfl 156 (by decide) (hts (.fieldLink RX12 327 "OptimaWorksModel" "price" "[I") (by decide +kernel)) (fun _ h9 => h9) rfl dX12_send_54 ?_
                refine lv_iload hx hb dX12_send_57 (lv_at hl 5 rfl) ?_
                refine lv_iload hx hb dX12_send_59 (lv_at hl 5 rfl) ?_
                refine lv_iload_n hx hb dX12_send_61 rfl (lv_at hl 1 rfl) ?_
                refine W.cut (pc := 72) (fun H locs ls stk => ∃ (v9 : Int32), (v9 = if n1 = sN then 0 else 536870912) ∧  stk = [.int v9, .int (nI n1), .ref (a 100)] ∧ va_P (dC, dI) vwCl (WR a k h0 vi vj (fT (fT (fT vF 99 f9) 100 f1) 101 x4_F101) vG) H ∧ va_D A (WR a k h0 vi vj (fT (fT (fT vF 99 f9) 100 f1) 101 x4_F101) vG) ∧ va_S A s.heap H locs ∧ lv_has ls 8 [(0, .ref h0), (1, .int (nI sN)), (2, .int (nI tN)), (3, .int am), (4, .int (nI sn)), (6, .int (nI n1))]) (fun join3 => ?_) ?_
                · refine lv_icmp_ne (tgt := 69) hx hb dX12_send_62 (by decide) (fun c_62 => ?_) (fun c_62 => ?_)
                  · have t_62 : ((n1 : Nat) : Int) ≠ ((sN : Nat) : Int) := toI_ne c_62 (nI_toInt (by omega)) (nI_toInt (by omega))
                    refine lv_ldcw (v := 536870912) hx hb hown (hts (.constant RX12 1072 536870912) (by decide +kernel)) dX12_send_69 ?_
                    have hl : lv_has _ _ ([(0, .ref h0), (1, .int (nI sN)), (2, .int (nI tN)), (3, .int am), (4, .int (nI sn)), (6, .int (nI n1))]) := lv_sub hl [0, 1, 2, 3, 4, 5] rfl
                    exact join3 _ _ _ _ ⟨536870912, by rw [if_neg (fun e9 => c_62 (by rw [e9]))], rfl, hP, hD, hS, hl⟩
                  · have t_62 : ((n1 : Nat) : Int) = ((sN : Nat) : Int) := toI_nne c_62 (nI_toInt (by omega)) (nI_toInt (by omega))
                    refine lv_iconst (v := 0) hx hb dX12_send_65 (by decide) ?_
                    refine lv_goto (tgt := 72) hx hb dX12_send_66 (by decide) ?_
                    have hl : lv_has _ _ ([(0, .ref h0), (1, .int (nI sN)), (2, .int (nI tN)), (3, .int am), (4, .int (nI sn)), (6, .int (nI n1))]) := lv_sub hl [0, 1, 2, 3, 4, 5] rfl
                    exact join3 _ _ _ _ ⟨0, by rw [if_pos ((nI_eq (by omega) (by omega)).mp c_62)], rfl, hP, hD, hS, hl⟩
                · rintro H locs ls stk ⟨v9, hj9, rfl, hP, hD, hS, hl⟩
                  refine va_iast (cA := k 100) (n := 12) (f := f1) hx hb hK hP hD hS 101 100 (WR_get 100 (by decide)) (TR_get 100 (by decide)) (vp_in_nI (show n1 < 12 by omega) (by omega)) dX12_send_72 (fun H locs hP hD hS => ?_)
                  have e9 : fT (fT (fT vF 99 f9) 100 (upd f1 ((nI n1)).toNatClampNeg v9)) 101 x4_F101 = fT (fT (fT (fT vF 99 f9) 100 f1) 101 x4_F101) 100 (upd f1 ((nI n1)).toNatClampNeg v9) := ((fT_sw _ _ _ (Nat.ne_of_beq_eq_false rfl)).trans (congrArg (fun g9 => fT g9 101 x4_F101) (fT_sm _ _ _ _))).symm
                  have hP : va_P (dC, dI) vwCl (WR a k h0 vi vj (fT (fT (fT vF 99 f9) 100 (upd f1 ((nI n1)).toNatClampNeg v9)) 101 x4_F101) vG) H := by rw [e9, ← WR_F 100 (by decide) _ rfl]; exact hP
                  have hD : va_D A (WR a k h0 vi vj (fT (fT (fT vF 99 f9) 100 (upd f1 ((nI n1)).toNatClampNeg v9)) 101 x4_F101) vG) := by rw [e9, ← WR_F 100 (by decide) _ rfl]; exact hD
                  clear e9
                  refine lv_iinc (v := (nI (n1 + 1))) hx hb dX12_send_73 hl (k := 5) rfl (nI_add n1 1) (by decide) rfl (fun ls (hl : lv_has ls _ ([(6, .int (nI (n1 + 1))), (0, .ref h0), (1, .int (nI sN)), (2, .int (nI tN)), (3, .int am), (4, .int (nI sn))])) => ?_)
                  refine lv_goto (tgt := 46) hx hb dX12_send_76 (by decide) ?_
                  have hl : lv_has _ _ ([(0, .ref h0), (1, .int (nI sN)), (2, .int (nI tN)), (3, .int am), (4, .int (nI sn)), (6, .int (nI (n1 + 1)))]) := lv_sub hl [1, 2, 3, 4, 5, 0] rfl
                  exact ih46_2 (n1 + 1) (upd f1 ((nI n1)).toNatClampNeg v9) _ _ _ (by omega) (fun n hn => by rw [upd_at (by omega)]; by_cases e9 : n = n1; (rw [if_pos e9, e9]; exact hj9); (rw [if_neg e9]; exact hz1 n (by omega))) (by omega) hP hD hS hl
    · have t_9 : ¬ ((k5 : Nat) : Int) ≥ ((ar : Nat) : Int) := toI_nge c_9 (nI_toInt (by omega)) (nI_toInt (by omega))
      refine lv_aload_n hx hb dX12_send_12 rfl (lv_at hl 0 rfl) ?_
      refine va_get (D := (dC, dI)) (ci := 12) (v := .ref (a 99)) (C := RX12) (T := TX12) (N := 163) (fs := fM (vS a vi vj)) hx hb hts iwsRX12_send_in12 hown hK hP 0 rfl rfl 155 (by decide) (hts (.fieldLink RX12 324 "OptimaWorksModel" "flow" "[I") (by decide +kernel)) (fun _ h9 => h9) rfl dX12_send_13 ?_
      refine lv_iload hx hb dX12_send_16 (lv_at hl 4 rfl) ?_
      refine lv_iconst (v := 0) hx hb dX12_send_18 (by decide) ?_
      refine va_iast (cA := k 99) (n := 40) (f := f0) hx hb hK hP hD hS 100 99 (WR_get 99 (by decide)) (TR_get 99 (by decide)) (vp_in_nI (show k5 < 40 by omega) (by omega)) dX12_send_19 (fun H locs hP hD hS => ?_)
      have e9 : fT vF 99 (upd f0 ((nI k5)).toNatClampNeg 0) = fT (fT vF 99 f0) 99 (upd f0 ((nI k5)).toNatClampNeg 0) := (fT_sm _ _ _ _).symm
      have hP : va_P (dC, dI) vwCl (WR a k h0 vi vj (fT vF 99 (upd f0 ((nI k5)).toNatClampNeg 0)) vG) H := by rw [e9, ← WR_F 99 (by decide) _ rfl]; exact hP
      have hD : va_D A (WR a k h0 vi vj (fT vF 99 (upd f0 ((nI k5)).toNatClampNeg 0)) vG) := by rw [e9, ← WR_F 99 (by decide) _ rfl]; exact hD
      clear e9
      refine lv_iinc (v := (nI (k5 + 1))) hx hb dX12_send_20 hl (k := 4) rfl (nI_add k5 1) (by decide) rfl (fun ls (hl : lv_has ls _ ([(4, .int (nI (k5 + 1))), (0, .ref h0), (1, .int (nI sN)), (2, .int (nI tN)), (3, .int am)])) => ?_)
      refine lv_goto (tgt := 3) hx hb dX12_send_23 (by decide) ?_
      have hl : lv_has _ _ ([(0, .ref h0), (1, .int (nI sN)), (2, .int (nI tN)), (3, .int am), (4, .int (nI (k5 + 1)))]) := lv_sub hl [1, 2, 3, 4, 0] rfl
      exact ih3 (k5 + 1) (upd f0 ((nI k5)).toNatClampNeg 0) _ _ _ (by omega) (fun a ha => by rw [upd_at (by omega)]; by_cases e9 : a = k5; (rw [if_pos e9]); (rw [if_neg e9]; exact hz0 a (by omega))) (by omega) hP hD hS hl

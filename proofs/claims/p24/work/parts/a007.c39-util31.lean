section
theorem hd_yX12_isSet_RX12 : yX12_isSet.cls = RX12 ∧ yX12_isSet.cls ≠ "java/lang/invoke/MethodHandle" ∧ yX12_isSet.cls ≠ "java/lang/invoke/VarHandle" ∧ (parseMethodDescriptor yX12_isSet.desc).map (fun d => d.parameters.length) = some 1 := by decide +kernel
theorem hd_yX12_isHolder_RX12 : yX12_isHolder.cls = RX12 ∧ yX12_isHolder.cls ≠ "java/lang/invoke/MethodHandle" ∧ yX12_isHolder.cls ≠ "java/lang/invoke/VarHandle" ∧ (parseMethodDescriptor yX12_isHolder.desc).map (fun d => d.parameters.length) = some 1 := by decide +kernel
theorem hd_yX12_isRule_RX12 : yX12_isRule.cls = RX12 ∧ yX12_isRule.cls ≠ "java/lang/invoke/MethodHandle" ∧ yX12_isRule.cls ≠ "java/lang/invoke/VarHandle" ∧ (parseMethodDescriptor yX12_isRule.desc).map (fun d => d.parameters.length) = some 4 := by decide +kernel
theorem hd_yX12_keeps_RX12 : yX12_keeps.cls = RX12 ∧ yX12_keeps.cls ≠ "java/lang/invoke/MethodHandle" ∧ yX12_keeps.cls ≠ "java/lang/invoke/VarHandle" ∧ (parseMethodDescriptor yX12_keeps.desc).map (fun d => d.parameters.length) = some 2 := by decide +kernel
theorem hd_yX12_models_RX12 : yX12_models.cls = RX12 ∧ yX12_models.cls ≠ "java/lang/invoke/MethodHandle" ∧ yX12_models.cls ≠ "java/lang/invoke/VarHandle" ∧ (parseMethodDescriptor yX12_models.desc).map (fun d => d.parameters.length) = some 1 := by decide +kernel
theorem hd_yX12_cost_RX12 : yX12_cost.cls = RX12 ∧ yX12_cost.cls ≠ "java/lang/invoke/MethodHandle" ∧ yX12_cost.cls ≠ "java/lang/invoke/VarHandle" ∧ (parseMethodDescriptor yX12_cost.desc).map (fun d => d.parameters.length) = some 1 := by decide +kernel
theorem hd_yX12_core_RX12 : yX12_core.cls = RX12 ∧ yX12_core.cls ≠ "java/lang/invoke/MethodHandle" ∧ yX12_core.cls ≠ "java/lang/invoke/VarHandle" ∧ (parseMethodDescriptor yX12_core.desc).map (fun d => d.parameters.length) = some 0 := by decide +kernel
theorem dX12_holder_0 : decode cX12_holder 0 = .ok (.aload_n 0, 1) := dk_42 (by decide +kernel)
theorem dX12_holder_1 : decode cX12_holder 1 = .ok (.iload_n 1, 1) := dk_27 (by decide +kernel)
theorem dX12_holder_2 : decode cX12_holder 2 = .ok (.ifCond .le 10, 3) := dk_158 (by decide +kernel)
theorem dX12_holder_5 : decode cX12_holder 5 = .ok (.iload_n 1, 1) := dk_27 (by decide +kernel)
theorem dX12_holder_6 : decode cX12_holder 6 = .ok (.ldc_w 977, 3) := dk_19 (by decide +kernel)
theorem dX12_holder_9 : decode cX12_holder 9 = .ok (.if_icmp .lt 7, 3) := dk_161 (by decide +kernel)
theorem dX12_holder_12 : decode cX12_holder 12 = .ok (.iconst 1, 1) := dk_4 (by decide +kernel)
theorem dX12_holder_13 : decode cX12_holder 13 = .ok (.goto 17, 3) := dk_167 (by decide +kernel)
theorem dX12_holder_16 : decode cX12_holder 16 = .ok (.aload_n 0, 1) := dk_42 (by decide +kernel)
theorem dX12_holder_17 : decode cX12_holder 17 = .ok (.getfield 978, 3) := dk_180 (by decide +kernel)
theorem dX12_holder_20 : decode cX12_holder 20 = .ok (.bipush 10, 2) := dk_16 (by decide +kernel)
theorem dX12_holder_22 : decode cX12_holder 22 = .ok (.if_icmp .ne 7, 3) := dk_160 (by decide +kernel)
theorem dX12_holder_25 : decode cX12_holder 25 = .ok (.iconst 2, 1) := dk_5 (by decide +kernel)
theorem dX12_holder_26 : decode cX12_holder 26 = .ok (.goto 4, 3) := dk_167 (by decide +kernel)
theorem dX12_holder_29 : decode cX12_holder 29 = .ok (.iconst 0, 1) := dk_3 (by decide +kernel)
theorem dX12_holder_30 : decode cX12_holder 30 = .ok (.putfield 348, 3) := dk_181 (by decide +kernel)
theorem dX12_holder_33 : decode cX12_holder 33 = .ok (.aload_n 0, 1) := dk_42 (by decide +kernel)
theorem dX12_holder_34 : decode cX12_holder 34 = .ok (.getfield 348, 3) := dk_180 (by decide +kernel)
theorem dX12_holder_37 : decode cX12_holder 37 = .ok (.ifCond .le 5, 3) := dk_158 (by decide +kernel)
theorem dX12_holder_40 : decode cX12_holder 40 = .ok (.iconst 0, 1) := dk_3 (by decide +kernel)
theorem dX12_holder_41 : decode cX12_holder 41 = .ok (.ireturn, 1) := dk_172 (by decide +kernel)
theorem dX12_holder_42 : decode cX12_holder 42 = .ok (.aload_n 0, 1) := dk_42 (by decide +kernel)
theorem dX12_holder_43 : decode cX12_holder 43 = .ok (.getfield 257, 3) := dk_180 (by decide +kernel)
theorem dX12_holder_46 : decode cX12_holder 46 = .ok (.aload_n 0, 1) := dk_42 (by decide +kernel)
theorem dX12_holder_47 : decode cX12_holder 47 = .ok (.getfield 978, 3) := dk_180 (by decide +kernel)
theorem dX12_holder_50 : decode cX12_holder 50 = .ok (.iload_n 1, 1) := dk_27 (by decide +kernel)
theorem dX12_holder_51 : decode cX12_holder 51 = .ok (.iastore, 1) := dk_79 (by decide +kernel)
theorem dX12_holder_52 : decode cX12_holder 52 = .ok (.aload_n 0, 1) := dk_42 (by decide +kernel)
theorem dX12_holder_53 : decode cX12_holder 53 = .ok (.dup, 1) := dk_89 (by decide +kernel)
theorem dX12_holder_54 : decode cX12_holder 54 = .ok (.getfield 978, 3) := dk_180 (by decide +kernel)
theorem dX12_holder_57 : decode cX12_holder 57 = .ok (.iconst 1, 1) := dk_4 (by decide +kernel)
theorem dX12_holder_58 : decode cX12_holder 58 = .ok (.iadd, 1) := dk_96 (by decide +kernel)
theorem dX12_holder_59 : decode cX12_holder 59 = .ok (.putfield 978, 3) := dk_181 (by decide +kernel)
theorem dX12_holder_62 : decode cX12_holder 62 = .ok (.aload_n 0, 1) := dk_42 (by decide +kernel)
theorem dX12_holder_63 : decode cX12_holder 63 = .ok (.iconst (-1), 1) := dk_2 (by decide +kernel)
theorem dX12_holder_64 : decode cX12_holder 64 = .ok (.putfield 300, 3) := dk_181 (by decide +kernel)
theorem dX12_holder_67 : decode cX12_holder 67 = .ok (.aload_n 0, 1) := dk_42 (by decide +kernel)
theorem dX12_holder_68 : decode cX12_holder 68 = .ok (.getfield 978, 3) := dk_180 (by decide +kernel)
theorem dX12_holder_71 : decode cX12_holder 71 = .ok (.iconst 1, 1) := dk_4 (by decide +kernel)
theorem dX12_holder_72 : decode cX12_holder 72 = .ok (.isub, 1) := dk_100 (by decide +kernel)
theorem dX12_holder_73 : decode cX12_holder 73 = .ok (.ireturn, 1) := dk_172 (by decide +kernel)
def wsRX12_holder : List Cond := .code yX12_holder cX12_holder 2 (some .int) :: ([.fieldLink RX12 348 "OptimaWorksModel" "thrown" "I", .constant RX12 977 65536, .fieldLink RX12 978 "OptimaWorksModel" "holders" "I", .fieldLink RX12 257 "OptimaWorksModel" "domain" "[I", .fieldLink RX12 300 "OptimaWorksModel" "listedMany" "I"] ++ wsX120)
theorem iwsRX12_holder_in12 : ∀ w ∈ wsX120, w ∈ wsRX12_holder := fun _ h => List.mem_cons_of_mem _ (List.mem_append_right _ h)
theorem gdwsRX12_holder : wsRX12_holder.all goodWord = true := gdC rfl (gdA (by decide +kernel : ([.fieldLink RX12 348 "OptimaWorksModel" "thrown" "I", .constant RX12 977 65536, .fieldLink RX12 978 "OptimaWorksModel" "holders" "I", .fieldLink RX12 257 "OptimaWorksModel" "domain" "[I", .fieldLink RX12 300 "OptimaWorksModel" "listedMany" "I"] : List Cond).all goodWord = true) gdwsX120)
theorem hm_r_X12_holder_0 : (.fieldLink RX12 348 "OptimaWorksModel" "thrown" "I" : Cond) ∈ wsRX12_holder := by decide +kernel
theorem hm_r_X12_holder_1 : (.fieldLink RX12 978 "OptimaWorksModel" "holders" "I" : Cond) ∈ wsRX12_holder := by decide +kernel
set_option maxHeartbeats 4000000 in
set_option maxRecDepth 100000 in
/-- holder(bits) -/
theorem r_X12_holder (l : Launch) (dC : Nat → ClassId) (dI : Nat → Nat → Nat) (a : Nat → Nat) (k : Nat → ClassId) (h0 : Nat) (vi : Nat → Int32) (vj : Nat → Int64) (vF : Nat → Nat → Int32) (vG : Nat → Nat → Int64) (bI : Int32) (hn : Nat) (hhn : vi 128 = nI hn) (hhn10 : hn ≤ 10) (hDo : DoO (vF 78) hn) (hLm : LmO (vi 145)) (sz : Nat) : Met l yX12_holder wsRX12_holder ({ frames := 0, cells := 0, slots := 0, locals := 0 }) (va_Pc [.ref h0, .int bI] (fun U => U.heap.size = sz ∧ va_P (dC, dI) vwCl (WR a k h0 vi vj vF vG) U.heap ∧ va_K (dC, dI) vwCl (tX12 k) U ∧ va_D (fun _ => True) (WR a k h0 vi vj vF vG))) (va_Qi (fun (r : Int32) (u : (Int32) × (Nat) × (Nat → Int32) × (Int32)) => ((hn ≤ (u.2.1) ∧ (u.2.1) ≤ 10) ∧ (DoO (u.2.2.1) (u.2.1)) ∧ (LmO (u.2.2.2)) ∧ ((u.1) = 1) ∧ (¬ (1 ≤ (bI).toInt ∧ (bI).toInt ≤ 65535)) ∧ ((u.2.1) = hn)) ∨ ((hn ≤ (u.2.1) ∧ (u.2.1) ≤ 10) ∧ (DoO (u.2.2.1) (u.2.1)) ∧ (LmO (u.2.2.2)) ∧ ((u.1) = 2) ∧ ((1 ≤ (bI).toInt ∧ (bI).toInt ≤ 65535) ∧ hn = 10) ∧ ((u.2.1) = hn)) ∨ ((hn ≤ (u.2.1) ∧ (u.2.1) ≤ 10) ∧ (DoO (u.2.2.1) (u.2.1)) ∧ (LmO (u.2.2.2)) ∧ ((u.1) = 0) ∧ ((1 ≤ (bI).toInt ∧ (bI).toInt ≤ 65535) ∧ hn < 10) ∧ ((u.2.1) = hn + 1) ∧ (r.toInt = ((hn : Nat) : Int)))) (fun (u : (Int32) × (Nat) × (Nat → Int32) × (Int32)) t => va_P (dC, dI) vwCl (WR a k h0 (fT (fT (fT vi 0 (u.1)) 128 (nI (u.2.1))) 145 (u.2.2.2)) vj (fT vF 78 (u.2.2.1)) vG) t.heap ∧ va_D (va_A (WR a k h0 vi vj vF vG) sz) (WR a k h0 (fT (fT (fT vi 0 (u.1)) 128 (nI (u.2.1))) 145 (u.2.2.2)) vj (fT vF 78 (u.2.2.1)) vG)) (va_A (WR a k h0 vi vj vF vG) sz)) 0 0 (va_A (WR a k h0 vi vj vF vG) sz) := by
  refine Met.ofW (cc := cX12_holder) (maxL := 2) (ret := (some .int)) (by decide) rfl ?_
  intro p e s m args below meth c s₁ B hml hv
  obtain ⟨rfl, hsz, hP, hK, hD0⟩ := hv
  have hx := B.exec
  have hb := B.bytes
  have hr := B.returns
  have hts := atoms_spec (ws := wsRX12_holder) B.pre
  have hown : s.vm.findClass RX12 = some m.cls := findClass_of_methodNamed B.named
  have hlocks := B.notSynchronized
  subst hsz
  have hD := hD0.self (sz := s.heap.size)
  generalize hAe : va_A (WR a k h0 vi vj vF vG) s.heap.size = A at hD ⊢
  have hA : ∀ q : Nat, s.heap.size ≤ q → A q := fun q h => by rw [← hAe]; exact Or.inr h
  have hS : va_S A s.heap s.heap [] := va_S.rf
  have hl := lv_entry ([.ref h0, .int bI]) (n := 2) (Nat.le_of_ble_eq_true rfl)
  rw [lg_entry_eq]
  generalize (lg_sl ([.ref h0, .int bI]) ++ List.replicate (2 - (lg_sl ([.ref h0, .int bI])).length) Slot.unset).toArray = ls at hl ⊢
  have hl : lv_has ls 2 [(0, .ref h0), (1, .int bI)] := hl
  refine lv_aload_n hx hb dX12_holder_0 rfl (lv_at hl 0 rfl) ?_
  refine lv_iload_n hx hb dX12_holder_1 rfl (lv_at hl 1 rfl) ?_
  refine lv_if_le (tgt := 12) hx hb dX12_holder_2 (by decide) (fun c_2 => ?_) (fun c_2 => ?_)
  · have t_2 : (bI).toInt ≤ 0 := toI_le c_2 rfl (by decide)
    refine lv_iconst (v := 1) hx hb dX12_holder_12 (by decide) ?_
    refine lv_goto (tgt := 30) hx hb dX12_holder_13 (by decide) ?_
    refine va_put (D := (dC, dI)) (ci := 12) (v := .int 1) (ty := .int) (C := RX12) (T := TX12) (N := 163) (fs := fM (vS a vi vj)) hx hb hts iwsRX12_holder_in12 tyX12 tyX12_ok nmX12 hown hK hP hD hS 0 rfl rfl 0 (by decide) (hts _ hm_r_X12_holder_0) (fun _ h9 => h9) rfl (by decide +kernel) rfl rfl (Nat.le_of_ble_eq_true rfl) dX12_holder_30 (fun H locs hP hD hS => ?_)
    have hP : va_P (dC, dI) vwCl (WR a k h0 (fT vi 0 1) vj vF vG) H := fz_w (WR_i 0 _ rfl) hP
    have hD : va_D A (WR a k h0 (fT vi 0 1) vj vF vG) := fz_wD (WR_i 0 _ rfl) hD
    refine lv_aload_n hx hb dX12_holder_33 rfl (lv_at hl 0 rfl) ?_
    refine va_get (D := (dC, dI)) (ci := 12) (v := .int 1) (C := RX12) (T := TX12) (N := 163) (fs := fM (vS a (fT vi 0 1) vj)) hx hb hts iwsRX12_holder_in12 hown hK hP 0 rfl rfl 0 (by decide) (hts _ hm_r_X12_holder_0) (fun _ h9 => h9) rfl dX12_holder_34 ?_
    refine lv_if_le (tgt := 42) hx hb dX12_holder_37 (by decide) (fun c9 => absurd c9 (by decide)) (fun _ => ?_)
    refine lv_iconst (v := 0) hx hb dX12_holder_40 (by decide) ?_
    refine W.widen (k := 0) (n := 0) (by decide +kernel) (by decide +kernel) ?_
    have e9 : fT (fT (fT vi 0 1) 128 (nI hn)) 145 (vi 145) = fT vi 0 1 := Eq.trans (mv_1 rfl) (Eq.trans (congrArg (fT _ 128) (show nI hn = vi 128 from (by first | with_reducible rfl | with_reducible assumption | (symm; with_reducible assumption) | rfl | assumption | (symm; assumption) | (subst_vars; rfl)))) (Eq.trans (id_2 rfl) (id_1 rfl)))
    have hP := wr_Pi e9 hP
    have hD := wr_Di e9 hD
    clear e9
    have e9 : fT vF 78 (vF 78) = vF := fT_id _ _ (rfl)
    have hP := wr_PF e9 hP
    have hD := wr_DF e9 hD
    clear e9
    exact W.iret (v := 0) hx hb hr (fun t9_ ht hW => ⟨⟨0, (1, hn, (vF 78), (vi 145)), rfl, by (try dsimp only); exact Or.inl (⟨by omega, hDo, hLm, rfl, by omega, rfl⟩), by rw [ht]; exact hP, hD⟩, hS.F ht⟩) hS.2.2 dX12_holder_41
  · have t_2 : ¬ (bI).toInt ≤ 0 := toI_nle c_2 rfl (by decide)
    refine lv_iload_n hx hb dX12_holder_5 rfl (lv_at hl 1 rfl) ?_
    refine lv_ldcw (v := 65536) hx hb hown (hts (.constant RX12 977 65536) (by decide +kernel)) dX12_holder_6 ?_
    refine lv_icmp_lt (tgt := 16) hx hb dX12_holder_9 (by decide) (fun c_9 => ?_) (fun c_9 => ?_)
    · have t_9 : (bI).toInt < 65536 := toI_lt c_9 rfl (by decide)
      refine lv_aload_n hx hb dX12_holder_16 rfl (lv_at hl 0 rfl) ?_
      refine va_get (D := (dC, dI)) (ci := 12) (v := .int (vi 128)) (C := RX12) (T := TX12) (N := 163) (fs := fM (vS a vi vj)) hx hb hts iwsRX12_holder_in12 hown hK hP 0 rfl rfl 128 (by decide) (hts _ hm_r_X12_holder_1) (fun _ h9 => h9) rfl dX12_holder_17 ?_
      refine lv_topi (fun y1 hy1 => ?_)
      obtain rfl : (nI hn) = y1 := (hy1.trans (hhn)).symm
      refine lv_bipush (v := 10) hx hb dX12_holder_20 (by decide) ?_
      refine lv_icmp_ne (tgt := 29) hx hb dX12_holder_22 (by decide) (fun c_22 => ?_) (fun c_22 => ?_)
      · have t_22 : ((hn : Nat) : Int) ≠ 10 := toI_ne c_22 (nI_toInt (by omega)) (by decide)
        refine lv_iconst (v := 0) hx hb dX12_holder_29 (by decide) ?_
        refine va_put (D := (dC, dI)) (ci := 12) (v := .int 0) (ty := .int) (C := RX12) (T := TX12) (N := 163) (fs := fM (vS a vi vj)) hx hb hts iwsRX12_holder_in12 tyX12 tyX12_ok nmX12 hown hK hP hD hS 0 rfl rfl 0 (by decide) (hts _ hm_r_X12_holder_0) (fun _ h9 => h9) rfl (by decide +kernel) rfl rfl (Nat.le_of_ble_eq_true rfl) dX12_holder_30 (fun H locs hP hD hS => ?_)
        have hP : va_P (dC, dI) vwCl (WR a k h0 (fT vi 0 0) vj vF vG) H := fz_w (WR_i 0 _ rfl) hP
        have hD : va_D A (WR a k h0 (fT vi 0 0) vj vF vG) := fz_wD (WR_i 0 _ rfl) hD
        refine lv_aload_n hx hb dX12_holder_33 rfl (lv_at hl 0 rfl) ?_
        refine va_get (D := (dC, dI)) (ci := 12) (v := .int 0) (C := RX12) (T := TX12) (N := 163) (fs := fM (vS a (fT vi 0 0) vj)) hx hb hts iwsRX12_holder_in12 hown hK hP 0 rfl rfl 0 (by decide) (hts _ hm_r_X12_holder_0) (fun _ h9 => h9) rfl dX12_holder_34 ?_
        refine lv_if_le (tgt := 42) hx hb dX12_holder_37 (by decide) (fun _ => ?_) (fun c9 => absurd (by decide) c9)
        obtain ⟨bn, h_bn, rfl⟩ := of_toInt (x := bI) (k := 65536) (by omega) (by omega)
        have e_bn : (nI bn).toInt = (bn : Int) := nI_toInt (by omega)
        refine lv_aload_n hx hb dX12_holder_42 rfl (lv_at hl 0 rfl) ?_
        refine va_get (D := (dC, dI)) (ci := 12) (v := .ref (a 78)) (C := RX12) (T := TX12) (N := 163) (fs := fM (vS a (fT vi 0 0) vj)) hx hb hts iwsRX12_holder_in12 hown hK hP 0 rfl rfl 130 (by decide) (hts (.fieldLink RX12 257 "OptimaWorksModel" "domain" "[I") (by decide +kernel)) (fun _ h9 => h9) rfl dX12_holder_43 ?_
        refine lv_aload_n hx hb dX12_holder_46 rfl (lv_at hl 0 rfl) ?_
        refine va_get (D := (dC, dI)) (ci := 12) (v := .int (vi 128)) (C := RX12) (T := TX12) (N := 163) (fs := fM (vS a (fT vi 0 0) vj)) hx hb hts iwsRX12_holder_in12 hown hK hP 0 rfl rfl 128 (by decide) (hts _ hm_r_X12_holder_1) (fun _ h9 => h9) rfl dX12_holder_47 ?_
        refine lv_topi (fun y2 hy2 => ?_)
        obtain rfl : (nI hn) = y2 := (hy2.trans (hhn)).symm
        refine lv_iload_n hx hb dX12_holder_50 rfl (lv_at hl 1 rfl) ?_
        refine va_iast (cA := k 78) (n := 10) (f := (vF 78)) hx hb hK hP hD hS 79 78 (WR_get 78 (by decide)) (TR_get 78 (by decide)) (vp_in_nI (show hn < 10 by omega) (by omega)) dX12_holder_51 (fun H locs hP hD hS => ?_)
        have hP : va_P (dC, dI) vwCl (WR a k h0 (fT vi 0 0) vj (fT vF 78 (upd (vF 78) ((nI hn)).toNatClampNeg (nI bn))) vG) H := fz_w (WR_F 78 (by decide) _ rfl) hP
        have hD : va_D A (WR a k h0 (fT vi 0 0) vj (fT vF 78 (upd (vF 78) ((nI hn)).toNatClampNeg (nI bn))) vG) := fz_wD (WR_F 78 (by decide) _ rfl) hD
        refine lv_aload_n hx hb dX12_holder_52 rfl (lv_at hl 0 rfl) ?_
        refine lv_dup hx hb dX12_holder_53 rfl ?_
        refine va_get (D := (dC, dI)) (ci := 12) (v := .int (vi 128)) (C := RX12) (T := TX12) (N := 163) (fs := fM (vS a (fT vi 0 0) vj)) hx hb hts iwsRX12_holder_in12 hown hK hP 0 rfl rfl 128 (by decide) (hts _ hm_r_X12_holder_1) (fun _ h9 => h9) rfl dX12_holder_54 ?_
        refine lv_topi (fun y3 hy3 => ?_)
        obtain rfl : (nI hn) = y3 := (hy3.trans (hhn)).symm
        refine lv_iconst (v := 1) hx hb dX12_holder_57 (by decide) ?_
        refine lv_iadd hx hb dX12_holder_58 ?_
        refine lv_topi (fun y4 hy4 => ?_)
        obtain rfl : (nI (hn + 1)) = y4 := (hy4.trans (nI_add hn 1)).symm
        refine va_put (D := (dC, dI)) (ci := 12) (v := .int (nI (hn + 1))) (ty := .int) (C := RX12) (T := TX12) (N := 163) (fs := fM (vS a (fT vi 0 0) vj)) hx hb hts iwsRX12_holder_in12 tyX12 tyX12_ok nmX12 hown hK hP hD hS 0 rfl rfl 128 (by decide) (hts _ hm_r_X12_holder_1) (fun _ h9 => h9) rfl (by decide +kernel) rfl rfl (Nat.le_of_ble_eq_true rfl) dX12_holder_59 (fun H locs hP hD hS => ?_)
        have hP : va_P (dC, dI) vwCl (WR a k h0 (fT (fT vi 0 0) 128 (nI (hn + 1))) vj (fT vF 78 (upd (vF 78) ((nI hn)).toNatClampNeg (nI bn))) vG) H := fz_w (WR_i 128 _ rfl) hP
        have hD : va_D A (WR a k h0 (fT (fT vi 0 0) 128 (nI (hn + 1))) vj (fT vF 78 (upd (vF 78) ((nI hn)).toNatClampNeg (nI bn))) vG) := fz_wD (WR_i 128 _ rfl) hD
        refine lv_aload_n hx hb dX12_holder_62 rfl (lv_at hl 0 rfl) ?_
        refine lv_iconst (v := (-1)) hx hb dX12_holder_63 (by decide) ?_
        refine va_put (D := (dC, dI)) (ci := 12) (v := .int (-1)) (ty := .int) (C := RX12) (T := TX12) (N := 163) (fs := fM (vS a (fT (fT vi 0 0) 128 (nI (hn + 1))) vj)) hx hb hts iwsRX12_holder_in12 tyX12 tyX12_ok nmX12 hown hK hP hD hS 0 rfl rfl 145 (by decide) (hts (.fieldLink RX12 300 "OptimaWorksModel" "listedMany" "I") (by decide +kernel)) (fun _ h9 => h9) rfl (by decide +kernel) rfl rfl (Nat.le_of_ble_eq_true rfl) dX12_holder_64 (fun H locs hP hD hS => ?_)
        have hP : va_P (dC, dI) vwCl (WR a k h0 (fT (fT (fT vi 0 0) 128 (nI (hn + 1))) 145 (-1)) vj (fT vF 78 (upd (vF 78) ((nI hn)).toNatClampNeg (nI bn))) vG) H := fz_w (WR_i 145 _ rfl) hP
        have hD : va_D A (WR a k h0 (fT (fT (fT vi 0 0) 128 (nI (hn + 1))) 145 (-1)) vj (fT vF 78 (upd (vF 78) ((nI hn)).toNatClampNeg (nI bn))) vG) := fz_wD (WR_i 145 _ rfl) hD
        refine lv_aload_n hx hb dX12_holder_67 rfl (lv_at hl 0 rfl) ?_
        refine va_get (D := (dC, dI)) (ci := 12) (v := .int (nI (hn + 1))) (C := RX12) (T := TX12) (N := 163) (fs := fM (vS a (fT (fT (fT vi 0 0) 128 (nI (hn + 1))) 145 (-1)) vj)) hx hb hts iwsRX12_holder_in12 hown hK hP 0 rfl rfl 128 (by decide) (hts _ hm_r_X12_holder_1) (fun _ h9 => h9) rfl dX12_holder_68 ?_
        refine lv_iconst (v := 1) hx hb dX12_holder_71 (by decide) ?_
        refine lv_isub hx hb dX12_holder_72 ?_
        refine W.widen (k := 0) (n := 0) (by decide +kernel) (by decide +kernel) ?_
        exact W.iret (v := ((nI (hn + 1)) - 1)) hx hb hr (fun t9_ ht hW => ⟨⟨((nI (hn + 1)) - 1), (0, (hn + 1), (upd (vF 78) ((nI hn)).toNatClampNeg (nI bn)), (-1)), rfl, by (try dsimp only); exact Or.inr (Or.inr (⟨by omega, (fun h hh => by rw [upd_at (by omega)]; by_cases e9 : h = hn; (rw [if_pos e9]; exact ⟨bn, by omega, rfl⟩); (rw [if_neg e9]; exact hDo h (by omega))), Or.inl rfl, rfl, by omega, rfl, (pk_sub_toInt (a := hn + 1) (b := 1) (by omega) (by omega)).trans (by omega)⟩)), by rw [ht]; exact hP, hD⟩, hS.F ht⟩) hS.2.2 dX12_holder_73
      · have t_22 : ((hn : Nat) : Int) = 10 := toI_nne c_22 (nI_toInt (by omega)) (by decide)
        refine lv_iconst (v := 2) hx hb dX12_holder_25 (by decide) ?_
        refine lv_goto (tgt := 30) hx hb dX12_holder_26 (by decide) ?_
        refine va_put (D := (dC, dI)) (ci := 12) (v := .int 2) (ty := .int) (C := RX12) (T := TX12) (N := 163) (fs := fM (vS a vi vj)) hx hb hts iwsRX12_holder_in12 tyX12 tyX12_ok nmX12 hown hK hP hD hS 0 rfl rfl 0 (by decide) (hts _ hm_r_X12_holder_0) (fun _ h9 => h9) rfl (by decide +kernel) rfl rfl (Nat.le_of_ble_eq_true rfl) dX12_holder_30 (fun H locs hP hD hS => ?_)
        have hP : va_P (dC, dI) vwCl (WR a k h0 (fT vi 0 2) vj vF vG) H := fz_w (WR_i 0 _ rfl) hP
        have hD : va_D A (WR a k h0 (fT vi 0 2) vj vF vG) := fz_wD (WR_i 0 _ rfl) hD
        refine lv_aload_n hx hb dX12_holder_33 rfl (lv_at hl 0 rfl) ?_
        refine va_get (D := (dC, dI)) (ci := 12) (v := .int 2) (C := RX12) (T := TX12) (N := 163) (fs := fM (vS a (fT vi 0 2) vj)) hx hb hts iwsRX12_holder_in12 hown hK hP 0 rfl rfl 0 (by decide) (hts _ hm_r_X12_holder_0) (fun _ h9 => h9) rfl dX12_holder_34 ?_
        refine lv_if_le (tgt := 42) hx hb dX12_holder_37 (by decide) (fun c9 => absurd c9 (by decide)) (fun _ => ?_)
        refine lv_iconst (v := 0) hx hb dX12_holder_40 (by decide) ?_
        refine W.widen (k := 0) (n := 0) (by decide +kernel) (by decide +kernel) ?_
        have e9 : fT (fT (fT vi 0 2) 128 (nI hn)) 145 (vi 145) = fT vi 0 2 := Eq.trans (mv_1 rfl) (Eq.trans (congrArg (fT _ 128) (show nI hn = vi 128 from (by first | with_reducible rfl | with_reducible assumption | (symm; with_reducible assumption) | rfl | assumption | (symm; assumption) | (subst_vars; rfl)))) (Eq.trans (id_2 rfl) (id_1 rfl)))
        have hP := wr_Pi e9 hP
        have hD := wr_Di e9 hD
        clear e9
        have e9 : fT vF 78 (vF 78) = vF := fT_id _ _ (rfl)
        have hP := wr_PF e9 hP
        have hD := wr_DF e9 hD
        clear e9
        exact W.iret (v := 0) hx hb hr (fun t9_ ht hW => ⟨⟨0, (2, hn, (vF 78), (vi 145)), rfl, by (try dsimp only); exact Or.inr (Or.inl (⟨by omega, hDo, hLm, rfl, by omega, rfl⟩)), by rw [ht]; exact hP, hD⟩, hS.F ht⟩) hS.2.2 dX12_holder_41
    · have t_9 : ¬ (bI).toInt < 65536 := toI_nlt c_9 rfl (by decide)
      refine lv_iconst (v := 1) hx hb dX12_holder_12 (by decide) ?_
      refine lv_goto (tgt := 30) hx hb dX12_holder_13 (by decide) ?_
      refine va_put (D := (dC, dI)) (ci := 12) (v := .int 1) (ty := .int) (C := RX12) (T := TX12) (N := 163) (fs := fM (vS a vi vj)) hx hb hts iwsRX12_holder_in12 tyX12 tyX12_ok nmX12 hown hK hP hD hS 0 rfl rfl 0 (by decide) (hts _ hm_r_X12_holder_0) (fun _ h9 => h9) rfl (by decide +kernel) rfl rfl (Nat.le_of_ble_eq_true rfl) dX12_holder_30 (fun H locs hP hD hS => ?_)
      have hP : va_P (dC, dI) vwCl (WR a k h0 (fT vi 0 1) vj vF vG) H := fz_w (WR_i 0 _ rfl) hP
      have hD : va_D A (WR a k h0 (fT vi 0 1) vj vF vG) := fz_wD (WR_i 0 _ rfl) hD
      refine lv_aload_n hx hb dX12_holder_33 rfl (lv_at hl 0 rfl) ?_
      refine va_get (D := (dC, dI)) (ci := 12) (v := .int 1) (C := RX12) (T := TX12) (N := 163) (fs := fM (vS a (fT vi 0 1) vj)) hx hb hts iwsRX12_holder_in12 hown hK hP 0 rfl rfl 0 (by decide) (hts _ hm_r_X12_holder_0) (fun _ h9 => h9) rfl dX12_holder_34 ?_
      refine lv_if_le (tgt := 42) hx hb dX12_holder_37 (by decide) (fun c9 => absurd c9 (by decide)) (fun _ => ?_)
      refine lv_iconst (v := 0) hx hb dX12_holder_40 (by decide) ?_
      refine W.widen (k := 0) (n := 0) (by decide +kernel) (by decide +kernel) ?_
      have e9 : fT (fT (fT vi 0 1) 128 (nI hn)) 145 (vi 145) = fT vi 0 1 := Eq.trans (mv_1 rfl) (Eq.trans (congrArg (fT _ 128) (show nI hn = vi 128 from (by first | with_reducible rfl | with_reducible assumption | (symm; with_reducible assumption) | rfl | assumption | (symm; assumption) | (subst_vars; rfl)))) (Eq.trans (id_2 rfl) (id_1 rfl)))
      have hP := wr_Pi e9 hP
      have hD := wr_Di e9 hD
      clear e9
      have e9 : fT vF 78 (vF 78) = vF := fT_id _ _ (rfl)
      have hP := wr_PF e9 hP
      have hD := wr_DF e9 hD
      clear e9
      exact W.iret (v := 0) hx hb hr (fun t9_ ht hW => ⟨⟨0, (1, hn, (vF 78), (vi 145)), rfl, by (try dsimp only); exact Or.inl (⟨by omega, hDo, hLm, rfl, by omega, rfl⟩), by rw [ht]; exact hP, hD⟩, hS.F ht⟩) hS.2.2 dX12_holder_41
theorem dX12_isSet_0 : decode cX12_isSet 0 = .ok (.iload_n 1, 1) := dk_27 (by decide +kernel)
theorem dX12_isSet_1 : decode cX12_isSet 1 = .ok (.ifCond .le 17, 3) := dk_158 (by decide +kernel)
theorem dX12_isSet_4 : decode cX12_isSet 4 = .ok (.iload_n 1, 1) := dk_27 (by decide +kernel)
theorem dX12_isSet_5 : decode cX12_isSet 5 = .ok (.iconst 1, 1) := dk_4 (by decide +kernel)
theorem dX12_isSet_6 : decode cX12_isSet 6 = .ok (.aload_n 0, 1) := dk_42 (by decide +kernel)
theorem dX12_isSet_7 : decode cX12_isSet 7 = .ok (.getfield 978, 3) := dk_180 (by decide +kernel)
theorem dX12_isSet_10 : decode cX12_isSet 10 = .ok (.ishl, 1) := dk_120 (by decide +kernel)
theorem dX12_isSet_11 : decode cX12_isSet 11 = .ok (.if_icmp .ge 7, 3) := dk_162 (by decide +kernel)
theorem dX12_isSet_14 : decode cX12_isSet 14 = .ok (.iconst 1, 1) := dk_4 (by decide +kernel)
theorem dX12_isSet_15 : decode cX12_isSet 15 = .ok (.goto 4, 3) := dk_167 (by decide +kernel)
theorem dX12_isSet_18 : decode cX12_isSet 18 = .ok (.iconst 0, 1) := dk_3 (by decide +kernel)
theorem dX12_isSet_19 : decode cX12_isSet 19 = .ok (.ireturn, 1) := dk_172 (by decide +kernel)
def wsRX12_isSet : List Cond := .code yX12_isSet cX12_isSet 2 (some .boolean) :: ([.fieldLink RX12 978 "OptimaWorksModel" "holders" "I"] ++ wsX120)
theorem iwsRX12_isSet_in12 : ∀ w ∈ wsX120, w ∈ wsRX12_isSet := fun _ h => List.mem_cons_of_mem _ (List.mem_append_right _ h)
theorem gdwsRX12_isSet : wsRX12_isSet.all goodWord = true := gdC rfl (gdA (by decide +kernel : ([.fieldLink RX12 978 "OptimaWorksModel" "holders" "I"] : List Cond).all goodWord = true) gdwsX120)
set_option maxHeartbeats 4000000 in
set_option maxRecDepth 100000 in
/-- isSet(a) -/
theorem r_X12_isSet (l : Launch) (dC : Nat → ClassId) (dI : Nat → Nat → Nat) (a : Nat → Nat) (k : Nat → ClassId) (h0 : Nat) (vi : Nat → Int32) (vj : Nat → Int64) (vF : Nat → Nat → Int32) (vG : Nat → Nat → Int64) (aI : Int32) (sz : Nat) : Met l yX12_isSet wsRX12_isSet ({ frames := 0, cells := 0, slots := 0, locals := 0 }) (va_Pc [.ref h0, .int aI] (fun U => U.heap.size = sz ∧ va_P (dC, dI) vwCl (WR a k h0 vi vj vF vG) U.heap ∧ va_K (dC, dI) vwCl (tX12 k) U ∧ va_D (fun _ => True) (WR a k h0 vi vj vF vG))) (va_Qi (fun (r : Int32) (u : Unit) => (r = 1 ∧ ((0 < (aI).toInt ∧ (aI).toInt < ((1 : Int32) <<< ((vi 128) &&& 31)).toInt))) ∨ (r = 0 ∧ (¬ (0 < (aI).toInt ∧ (aI).toInt < ((1 : Int32) <<< ((vi 128) &&& 31)).toInt)))) (fun (u : Unit) t => va_P (dC, dI) vwCl (WR a k h0 vi vj vF vG) t.heap ∧ va_D (va_A (WR a k h0 vi vj vF vG) sz) (WR a k h0 vi vj vF vG)) (va_A (WR a k h0 vi vj vF vG) sz)) 0 0 (va_A (WR a k h0 vi vj vF vG) sz) := by
  refine Met.ofW (cc := cX12_isSet) (maxL := 2) (ret := (some .boolean)) (by decide) rfl ?_
  intro p e s m args below meth c s₁ B hml hv
  obtain ⟨rfl, hsz, hP, hK, hD0⟩ := hv
  have hx := B.exec
  have hb := B.bytes
  have hr := B.returns
  have hts := atoms_spec (ws := wsRX12_isSet) B.pre
  have hown : s.vm.findClass RX12 = some m.cls := findClass_of_methodNamed B.named
  have hlocks := B.notSynchronized
  subst hsz
  have hD := hD0.self (sz := s.heap.size)
  generalize hAe : va_A (WR a k h0 vi vj vF vG) s.heap.size = A at hD ⊢
  have hA : ∀ q : Nat, s.heap.size ≤ q → A q := fun q h => by rw [← hAe]; exact Or.inr h
  have hS : va_S A s.heap s.heap [] := va_S.rf
  have hl := lv_entry ([.ref h0, .int aI]) (n := 2) (Nat.le_of_ble_eq_true rfl)
  rw [lg_entry_eq]
  generalize (lg_sl ([.ref h0, .int aI]) ++ List.replicate (2 - (lg_sl ([.ref h0, .int aI])).length) Slot.unset).toArray = ls at hl ⊢
  have hl : lv_has ls 2 [(0, .ref h0), (1, .int aI)] := hl
  refine lv_iload_n hx hb dX12_isSet_0 rfl (lv_at hl 1 rfl) ?_
  refine lv_if_le (tgt := 18) hx hb dX12_isSet_1 (by decide) (fun c_1 => ?_) (fun c_1 => ?_)
  · have t_1 : (aI).toInt ≤ 0 := toI_le c_1 rfl (by decide)
    refine lv_iconst (v := 0) hx hb dX12_isSet_18 (by decide) ?_
    refine W.widen (k := 0) (n := 0) (by decide +kernel) (by decide +kernel) ?_
    exact W.zret (v := 0) hx hb hr rfl (fun t9_ ht hW => ⟨⟨0, (), rfl, by (try dsimp only); exact Or.inr ⟨rfl, by omega⟩, by rw [ht]; exact hP, hD⟩, hS.F ht⟩) hS.2.2 dX12_isSet_19
  · have t_1 : ¬ (aI).toInt ≤ 0 := toI_nle c_1 rfl (by decide)
    refine lv_iload_n hx hb dX12_isSet_4 rfl (lv_at hl 1 rfl) ?_
    refine lv_iconst (v := 1) hx hb dX12_isSet_5 (by decide) ?_
    refine lv_aload_n hx hb dX12_isSet_6 rfl (lv_at hl 0 rfl) ?_
    refine va_get (D := (dC, dI)) (ci := 12) (v := .int (vi 128)) (C := RX12) (T := TX12) (N := 163) (fs := fM (vS a vi vj)) hx hb hts iwsRX12_isSet_in12 hown hK hP 0 rfl rfl 128 (by decide) (hts (.fieldLink RX12 978 "OptimaWorksModel" "holders" "I") (by decide +kernel)) (fun _ h9 => h9) rfl dX12_isSet_7 ?_
    refine lv_ishl hx hb dX12_isSet_10 ?_
    refine lv_icmp_ge (tgt := 18) hx hb dX12_isSet_11 (by decide) (fun c_11 => ?_) (fun c_11 => ?_)
    · have t_11 : (aI).toInt ≥ ((1 <<< ((vi 128) &&& 31))).toInt := toI_ge c_11 rfl rfl
      refine lv_iconst (v := 0) hx hb dX12_isSet_18 (by decide) ?_
      refine W.widen (k := 0) (n := 0) (by decide +kernel) (by decide +kernel) ?_
      exact W.zret (v := 0) hx hb hr rfl (fun t9_ ht hW => ⟨⟨0, (), rfl, by (try dsimp only); exact Or.inr ⟨rfl, by omega⟩, by rw [ht]; exact hP, hD⟩, hS.F ht⟩) hS.2.2 dX12_isSet_19
    · have t_11 : ¬ (aI).toInt ≥ ((1 <<< ((vi 128) &&& 31))).toInt := toI_nge c_11 rfl rfl
      refine lv_iconst (v := 1) hx hb dX12_isSet_14 (by decide) ?_
      refine lv_goto (tgt := 19) hx hb dX12_isSet_15 (by decide) ?_
      refine W.widen (k := 0) (n := 0) (by decide +kernel) (by decide +kernel) ?_
      exact W.zret (v := 1) hx hb hr rfl (fun t9_ ht hW => ⟨⟨1, (), rfl, by (try dsimp only); exact Or.inl ⟨rfl, by omega⟩, by rw [ht]; exact hP, hD⟩, hS.F ht⟩) hS.2.2 dX12_isSet_19
theorem dX12_isHolder_0 : decode cX12_isHolder 0 = .ok (.iload_n 1, 1) := dk_27 (by decide +kernel)
theorem dX12_isHolder_1 : decode cX12_isHolder 1 = .ok (.ifCond .lt 15, 3) := dk_155 (by decide +kernel)
theorem dX12_isHolder_4 : decode cX12_isHolder 4 = .ok (.iload_n 1, 1) := dk_27 (by decide +kernel)
theorem dX12_isHolder_5 : decode cX12_isHolder 5 = .ok (.aload_n 0, 1) := dk_42 (by decide +kernel)
theorem dX12_isHolder_6 : decode cX12_isHolder 6 = .ok (.getfield 978, 3) := dk_180 (by decide +kernel)
theorem dX12_isHolder_9 : decode cX12_isHolder 9 = .ok (.if_icmp .ge 7, 3) := dk_162 (by decide +kernel)
theorem dX12_isHolder_12 : decode cX12_isHolder 12 = .ok (.iconst 1, 1) := dk_4 (by decide +kernel)
theorem dX12_isHolder_13 : decode cX12_isHolder 13 = .ok (.goto 4, 3) := dk_167 (by decide +kernel)
theorem dX12_isHolder_16 : decode cX12_isHolder 16 = .ok (.iconst 0, 1) := dk_3 (by decide +kernel)
theorem dX12_isHolder_17 : decode cX12_isHolder 17 = .ok (.ireturn, 1) := dk_172 (by decide +kernel)
def wsRX12_isHolder : List Cond := .code yX12_isHolder cX12_isHolder 2 (some .boolean) :: ([.fieldLink RX12 978 "OptimaWorksModel" "holders" "I"] ++ wsX120)
theorem iwsRX12_isHolder_in12 : ∀ w ∈ wsX120, w ∈ wsRX12_isHolder := fun _ h => List.mem_cons_of_mem _ (List.mem_append_right _ h)
theorem gdwsRX12_isHolder : wsRX12_isHolder.all goodWord = true := gdC rfl (gdA (by decide +kernel : ([.fieldLink RX12 978 "OptimaWorksModel" "holders" "I"] : List Cond).all goodWord = true) gdwsX120)
set_option maxHeartbeats 4000000 in
set_option maxRecDepth 100000 in
/-- isHolder(i) -/
theorem r_X12_isHolder (l : Launch) (dC : Nat → ClassId) (dI : Nat → Nat → Nat) (a : Nat → Nat) (k : Nat → ClassId) (h0 : Nat) (vi : Nat → Int32) (vj : Nat → Int64) (vF : Nat → Nat → Int32) (vG : Nat → Nat → Int64) (iI : Int32) (hn : Nat) (hhn : vi 128 = nI hn) (hhn10 : hn ≤ 10) (sz : Nat) : Met l yX12_isHolder wsRX12_isHolder ({ frames := 0, cells := 0, slots := 0, locals := 0 }) (va_Pc [.ref h0, .int iI] (fun U => U.heap.size = sz ∧ va_P (dC, dI) vwCl (WR a k h0 vi vj vF vG) U.heap ∧ va_K (dC, dI) vwCl (tX12 k) U ∧ va_D (fun _ => True) (WR a k h0 vi vj vF vG))) (va_Qi (fun (r : Int32) (u : Unit) => (r = 1 ∧ (∃ x, x < hn ∧ iI = nI x) ∧ ((0 ≤ (iI).toInt ∧ (iI).toInt < ((hn : Nat) : Int)))) ∨ (r = 0 ∧ (¬ (0 ≤ (iI).toInt ∧ (iI).toInt < ((hn : Nat) : Int))))) (fun (u : Unit) t => va_P (dC, dI) vwCl (WR a k h0 vi vj vF vG) t.heap ∧ va_D (va_A (WR a k h0 vi vj vF vG) sz) (WR a k h0 vi vj vF vG)) (va_A (WR a k h0 vi vj vF vG) sz)) 0 0 (va_A (WR a k h0 vi vj vF vG) sz) := by
  refine Met.ofW (cc := cX12_isHolder) (maxL := 2) (ret := (some .boolean)) (by decide) rfl ?_
  intro p e s m args below meth c s₁ B hml hv
  obtain ⟨rfl, hsz, hP, hK, hD0⟩ := hv
  have hx := B.exec
  have hb := B.bytes
  have hr := B.returns
  have hts := atoms_spec (ws := wsRX12_isHolder) B.pre
  have hown : s.vm.findClass RX12 = some m.cls := findClass_of_methodNamed B.named
  have hlocks := B.notSynchronized
  subst hsz
  have hD := hD0.self (sz := s.heap.size)
  generalize hAe : va_A (WR a k h0 vi vj vF vG) s.heap.size = A at hD ⊢
  have hA : ∀ q : Nat, s.heap.size ≤ q → A q := fun q h => by rw [← hAe]; exact Or.inr h
  have hS : va_S A s.heap s.heap [] := va_S.rf
  have hl := lv_entry ([.ref h0, .int iI]) (n := 2) (Nat.le_of_ble_eq_true rfl)
  rw [lg_entry_eq]
  generalize (lg_sl ([.ref h0, .int iI]) ++ List.replicate (2 - (lg_sl ([.ref h0, .int iI])).length) Slot.unset).toArray = ls at hl ⊢
  have hl : lv_has ls 2 [(0, .ref h0), (1, .int iI)] := hl
  refine lv_iload_n hx hb dX12_isHolder_0 rfl (lv_at hl 1 rfl) ?_
  refine lv_if_lt (tgt := 16) hx hb dX12_isHolder_1 (by decide) (fun c_1 => ?_) (fun c_1 => ?_)
  · have t_1 : (iI).toInt < 0 := toI_lt c_1 rfl (by decide)
    refine lv_iconst (v := 0) hx hb dX12_isHolder_16 (by decide) ?_
    refine W.widen (k := 0) (n := 0) (by decide +kernel) (by decide +kernel) ?_
    exact W.zret (v := 0) hx hb hr rfl (fun t9_ ht hW => ⟨⟨0, (), rfl, by (try dsimp only); (have e9 : (nI hn).toInt = (hn : Int) := nI_toInt (by omega)); exact Or.inr ⟨rfl, by omega⟩, by rw [ht]; exact hP, hD⟩, hS.F ht⟩) hS.2.2 dX12_isHolder_17
  · have t_1 : ¬ (iI).toInt < 0 := toI_nlt c_1 rfl (by decide)
    refine lv_iload_n hx hb dX12_isHolder_4 rfl (lv_at hl 1 rfl) ?_
    refine lv_aload_n hx hb dX12_isHolder_5 rfl (lv_at hl 0 rfl) ?_
    refine va_get (D := (dC, dI)) (ci := 12) (v := .int (vi 128)) (C := RX12) (T := TX12) (N := 163) (fs := fM (vS a vi vj)) hx hb hts iwsRX12_isHolder_in12 hown hK hP 0 rfl rfl 128 (by decide) (hts (.fieldLink RX12 978 "OptimaWorksModel" "holders" "I") (by decide +kernel)) (fun _ h9 => h9) rfl dX12_isHolder_6 ?_
    refine lv_topi (fun y1 hy1 => ?_)
    obtain rfl : (nI hn) = y1 := (hy1.trans (hhn)).symm
    refine lv_icmp_ge (tgt := 16) hx hb dX12_isHolder_9 (by decide) (fun c_9 => ?_) (fun c_9 => ?_)
    · have t_9 : (iI).toInt ≥ ((hn : Nat) : Int) := toI_ge c_9 rfl (nI_toInt (by omega))
      refine lv_iconst (v := 0) hx hb dX12_isHolder_16 (by decide) ?_
      refine W.widen (k := 0) (n := 0) (by decide +kernel) (by decide +kernel) ?_
      exact W.zret (v := 0) hx hb hr rfl (fun t9_ ht hW => ⟨⟨0, (), rfl, by (try dsimp only); (have e9 : (nI hn).toInt = (hn : Int) := nI_toInt (by omega)); exact Or.inr ⟨rfl, by omega⟩, by rw [ht]; exact hP, hD⟩, hS.F ht⟩) hS.2.2 dX12_isHolder_17
    · have t_9 : ¬ (iI).toInt ≥ ((hn : Nat) : Int) := toI_nge c_9 rfl (nI_toInt (by omega))
      refine lv_iconst (v := 1) hx hb dX12_isHolder_12 (by decide) ?_
      refine lv_goto (tgt := 17) hx hb dX12_isHolder_13 (by decide) ?_
      refine W.widen (k := 0) (n := 0) (by decide +kernel) (by decide +kernel) ?_
      exact W.zret (v := 1) hx hb hr rfl (fun t9_ ht hW => ⟨⟨1, (), rfl, by (try dsimp only); (have e9 : (nI hn).toInt = (hn : Int) := nI_toInt (by omega)); (obtain ⟨x, hx9, ex⟩ := of_toInt (x := iI) (k := hn) (by omega) (by omega)); exact Or.inl ⟨rfl, ⟨x, by omega, ex⟩, by omega⟩, by rw [ht]; exact hP, hD⟩, hS.F ht⟩) hS.2.2 dX12_isHolder_17
theorem dX12_isRule_0 : decode cX12_isRule 0 = .ok (.iload_n 1, 1) := dk_27 (by decide +kernel)
theorem dX12_isRule_1 : decode cX12_isRule 1 = .ok (.tableswitch 187 0 4 #[35, 41, 76, 120, 160], 35) := by decide +kernel
theorem dX12_isRule_36 : decode cX12_isRule 36 = .ok (.aload_n 0, 1) := dk_42 (by decide +kernel)
theorem dX12_isRule_37 : decode cX12_isRule 37 = .ok (.iload_n 2, 1) := dk_28 (by decide +kernel)
theorem dX12_isRule_38 : decode cX12_isRule 38 = .ok (.invokevirtual 981, 3) := dk_182 (by decide +kernel)
theorem dX12_isRule_41 : decode cX12_isRule 41 = .ok (.ireturn, 1) := dk_172 (by decide +kernel)
theorem dX12_isRule_42 : decode cX12_isRule 42 = .ok (.aload_n 0, 1) := dk_42 (by decide +kernel)
theorem dX12_isRule_43 : decode cX12_isRule 43 = .ok (.iload_n 2, 1) := dk_28 (by decide +kernel)
theorem dX12_isRule_44 : decode cX12_isRule 44 = .ok (.invokevirtual 984, 3) := dk_182 (by decide +kernel)
theorem dX12_isRule_47 : decode cX12_isRule 47 = .ok (.ifCond .eq 28, 3) := dk_153 (by decide +kernel)
theorem dX12_isRule_50 : decode cX12_isRule 50 = .ok (.aload_n 0, 1) := dk_42 (by decide +kernel)
theorem dX12_isRule_51 : decode cX12_isRule 51 = .ok (.iload 4, 2) := dk_21 (by decide +kernel)
theorem dX12_isRule_53 : decode cX12_isRule 53 = .ok (.invokevirtual 984, 3) := dk_182 (by decide +kernel)
theorem dX12_isRule_56 : decode cX12_isRule 56 = .ok (.ifCond .eq 19, 3) := dk_153 (by decide +kernel)
theorem dX12_isRule_59 : decode cX12_isRule 59 = .ok (.iload_n 3, 1) := dk_29 (by decide +kernel)
theorem dX12_isRule_60 : decode cX12_isRule 60 = .ok (.bipush (-15), 2) := dk_16 (by decide +kernel)
theorem dX12_isRule_62 : decode cX12_isRule 62 = .ok (.if_icmp .lt 13, 3) := dk_161 (by decide +kernel)
theorem dX12_isRule_65 : decode cX12_isRule 65 = .ok (.iload_n 3, 1) := dk_29 (by decide +kernel)
theorem dX12_isRule_66 : decode cX12_isRule 66 = .ok (.bipush 15, 2) := dk_16 (by decide +kernel)
theorem dX12_isRule_68 : decode cX12_isRule 68 = .ok (.if_icmp .gt 7, 3) := dk_163 (by decide +kernel)
theorem dX12_isRule_71 : decode cX12_isRule 71 = .ok (.iconst 1, 1) := dk_4 (by decide +kernel)
theorem dX12_isRule_72 : decode cX12_isRule 72 = .ok (.goto 4, 3) := dk_167 (by decide +kernel)
theorem dX12_isRule_75 : decode cX12_isRule 75 = .ok (.iconst 0, 1) := dk_3 (by decide +kernel)
theorem dX12_isRule_76 : decode cX12_isRule 76 = .ok (.ireturn, 1) := dk_172 (by decide +kernel)
theorem dX12_isRule_77 : decode cX12_isRule 77 = .ok (.aload_n 0, 1) := dk_42 (by decide +kernel)
theorem dX12_isRule_78 : decode cX12_isRule 78 = .ok (.iload_n 2, 1) := dk_28 (by decide +kernel)
theorem dX12_isRule_79 : decode cX12_isRule 79 = .ok (.invokevirtual 981, 3) := dk_182 (by decide +kernel)
theorem dX12_isRule_82 : decode cX12_isRule 82 = .ok (.ifCond .eq 37, 3) := dk_153 (by decide +kernel)
theorem dX12_isRule_85 : decode cX12_isRule 85 = .ok (.iload_n 3, 1) := dk_29 (by decide +kernel)
theorem dX12_isRule_86 : decode cX12_isRule 86 = .ok (.sipush (-200), 3) := dk_17 (by decide +kernel)
theorem dX12_isRule_89 : decode cX12_isRule 89 = .ok (.if_icmp .lt 30, 3) := dk_161 (by decide +kernel)
theorem dX12_isRule_92 : decode cX12_isRule 92 = .ok (.iload_n 3, 1) := dk_29 (by decide +kernel)
theorem dX12_isRule_93 : decode cX12_isRule 93 = .ok (.sipush 200, 3) := dk_17 (by decide +kernel)
theorem dX12_isRule_96 : decode cX12_isRule 96 = .ok (.if_icmp .gt 23, 3) := dk_163 (by decide +kernel)
theorem dX12_isRule_99 : decode cX12_isRule 99 = .ok (.iload 4, 2) := dk_21 (by decide +kernel)
theorem dX12_isRule_101 : decode cX12_isRule 101 = .ok (.sipush (-200), 3) := dk_17 (by decide +kernel)
theorem dX12_isRule_104 : decode cX12_isRule 104 = .ok (.if_icmp .lt 15, 3) := dk_161 (by decide +kernel)
theorem dX12_isRule_107 : decode cX12_isRule 107 = .ok (.iload 4, 2) := dk_21 (by decide +kernel)
theorem dX12_isRule_109 : decode cX12_isRule 109 = .ok (.sipush 200, 3) := dk_17 (by decide +kernel)
theorem dX12_isRule_112 : decode cX12_isRule 112 = .ok (.if_icmp .gt 7, 3) := dk_163 (by decide +kernel)
theorem dX12_isRule_115 : decode cX12_isRule 115 = .ok (.iconst 1, 1) := dk_4 (by decide +kernel)
theorem dX12_isRule_116 : decode cX12_isRule 116 = .ok (.goto 4, 3) := dk_167 (by decide +kernel)
theorem dX12_isRule_119 : decode cX12_isRule 119 = .ok (.iconst 0, 1) := dk_3 (by decide +kernel)
theorem dX12_isRule_120 : decode cX12_isRule 120 = .ok (.ireturn, 1) := dk_172 (by decide +kernel)
theorem dX12_isRule_121 : decode cX12_isRule 121 = .ok (.aload_n 0, 1) := dk_42 (by decide +kernel)
theorem dX12_isRule_122 : decode cX12_isRule 122 = .ok (.iload_n 2, 1) := dk_28 (by decide +kernel)
theorem dX12_isRule_123 : decode cX12_isRule 123 = .ok (.invokevirtual 981, 3) := dk_182 (by decide +kernel)
theorem dX12_isRule_126 : decode cX12_isRule 126 = .ok (.ifCond .eq 33, 3) := dk_153 (by decide +kernel)
theorem dX12_isRule_129 : decode cX12_isRule 129 = .ok (.iload_n 3, 1) := dk_29 (by decide +kernel)
theorem dX12_isRule_130 : decode cX12_isRule 130 = .ok (.sipush (-200), 3) := dk_17 (by decide +kernel)
theorem dX12_isRule_133 : decode cX12_isRule 133 = .ok (.if_icmp .lt 26, 3) := dk_161 (by decide +kernel)
theorem dX12_isRule_136 : decode cX12_isRule 136 = .ok (.iload_n 3, 1) := dk_29 (by decide +kernel)
theorem dX12_isRule_137 : decode cX12_isRule 137 = .ok (.sipush 200, 3) := dk_17 (by decide +kernel)
theorem dX12_isRule_140 : decode cX12_isRule 140 = .ok (.if_icmp .gt 19, 3) := dk_163 (by decide +kernel)
theorem dX12_isRule_143 : decode cX12_isRule 143 = .ok (.iload 4, 2) := dk_21 (by decide +kernel)
theorem dX12_isRule_145 : decode cX12_isRule 145 = .ok (.ifCond .lt 14, 3) := dk_155 (by decide +kernel)
theorem dX12_isRule_148 : decode cX12_isRule 148 = .ok (.iload 4, 2) := dk_21 (by decide +kernel)
theorem dX12_isRule_150 : decode cX12_isRule 150 = .ok (.bipush 16, 2) := dk_16 (by decide +kernel)
theorem dX12_isRule_152 : decode cX12_isRule 152 = .ok (.if_icmp .ge 7, 3) := dk_162 (by decide +kernel)
theorem dX12_isRule_155 : decode cX12_isRule 155 = .ok (.iconst 1, 1) := dk_4 (by decide +kernel)
theorem dX12_isRule_156 : decode cX12_isRule 156 = .ok (.goto 4, 3) := dk_167 (by decide +kernel)
theorem dX12_isRule_159 : decode cX12_isRule 159 = .ok (.iconst 0, 1) := dk_3 (by decide +kernel)
theorem dX12_isRule_160 : decode cX12_isRule 160 = .ok (.ireturn, 1) := dk_172 (by decide +kernel)
theorem dX12_isRule_161 : decode cX12_isRule 161 = .ok (.aload_n 0, 1) := dk_42 (by decide +kernel)
theorem dX12_isRule_162 : decode cX12_isRule 162 = .ok (.iload_n 2, 1) := dk_28 (by decide +kernel)
theorem dX12_isRule_163 : decode cX12_isRule 163 = .ok (.invokevirtual 984, 3) := dk_182 (by decide +kernel)
theorem dX12_isRule_166 : decode cX12_isRule 166 = .ok (.ifCond .eq 20, 3) := dk_153 (by decide +kernel)
theorem dX12_isRule_169 : decode cX12_isRule 169 = .ok (.aload_n 0, 1) := dk_42 (by decide +kernel)
theorem dX12_isRule_170 : decode cX12_isRule 170 = .ok (.iload_n 3, 1) := dk_29 (by decide +kernel)
theorem dX12_isRule_171 : decode cX12_isRule 171 = .ok (.invokevirtual 984, 3) := dk_182 (by decide +kernel)
theorem dX12_isRule_174 : decode cX12_isRule 174 = .ok (.ifCond .eq 12, 3) := dk_153 (by decide +kernel)
theorem dX12_isRule_177 : decode cX12_isRule 177 = .ok (.iload_n 2, 1) := dk_28 (by decide +kernel)
theorem dX12_isRule_178 : decode cX12_isRule 178 = .ok (.iload_n 3, 1) := dk_29 (by decide +kernel)
theorem dX12_isRule_179 : decode cX12_isRule 179 = .ok (.if_icmp .eq 7, 3) := dk_159 (by decide +kernel)
theorem dX12_isRule_182 : decode cX12_isRule 182 = .ok (.iconst 1, 1) := dk_4 (by decide +kernel)
theorem dX12_isRule_183 : decode cX12_isRule 183 = .ok (.goto 4, 3) := dk_167 (by decide +kernel)
theorem dX12_isRule_186 : decode cX12_isRule 186 = .ok (.iconst 0, 1) := dk_3 (by decide +kernel)
theorem dX12_isRule_187 : decode cX12_isRule 187 = .ok (.ireturn, 1) := dk_172 (by decide +kernel)
theorem dX12_isRule_188 : decode cX12_isRule 188 = .ok (.iconst 0, 1) := dk_3 (by decide +kernel)
theorem dX12_isRule_189 : decode cX12_isRule 189 = .ok (.ireturn, 1) := dk_172 (by decide +kernel)
def wsRX12_isRule : List Cond := .code yX12_isRule cX12_isRule 5 (some .boolean) :: ([] ++ wsX120 ++ (wsV RX12 981 RX12 yX12_isSet wsRX12_isSet) ++ (wsV RX12 984 RX12 yX12_isHolder wsRX12_isHolder))
theorem iwsRX12_isRule_in12 : ∀ w ∈ wsX120, w ∈ wsRX12_isRule := fun _ h => List.mem_cons_of_mem _ (List.mem_append_left _ (List.mem_append_left _ (List.mem_append_right _ h)))
theorem gwsRX12_isRule_0 : GoodIn wsRX12_isRule (wsV RX12 981 RX12 yX12_isSet wsRX12_isSet) := goodIn_sub (fun _ h => List.mem_cons_of_mem _ (List.mem_append_left _ (List.mem_append_right _ h))) (gdV (by decide +kernel) gdwsRX12_isSet)
theorem gwsRX12_isRule_1 : GoodIn wsRX12_isRule (wsV RX12 984 RX12 yX12_isHolder wsRX12_isHolder) := goodIn_sub (fun _ h => List.mem_cons_of_mem _ (List.mem_append_right _ h)) (gdV (by decide +kernel) gdwsRX12_isHolder)
theorem gdwsRX12_isRule : wsRX12_isRule.all goodWord = true := gdC rfl (gdA (gdA (gdA (by decide +kernel : ([] : List Cond).all goodWord = true) gdwsX120) (gdV (by decide +kernel) gdwsRX12_isSet)) (gdV (by decide +kernel) gdwsRX12_isHolder))
set_option maxHeartbeats 4000000 in
set_option maxRecDepth 100000 in
/-- isRule(k, a, b, c) -/
theorem r_X12_isRule (l : Launch) (dC : Nat → ClassId) (dI : Nat → Nat → Nat) (a : Nat → Nat) (k : Nat → ClassId) (h0 : Nat) (vi : Nat → Int32) (vj : Nat → Int64) (vF : Nat → Nat → Int32) (vG : Nat → Nat → Int64) (kI : Int32) (aI : Int32) (bI : Int32) (cI : Int32) (hn : Nat) (hhn : vi 128 = nI hn) (hhn10 : hn ≤ 10) (sz : Nat) : Met l yX12_isRule wsRX12_isRule ({ frames := 1, cells := 0, slots := 0, locals := 21 }) (va_Pc [.ref h0, .int kI, .int aI, .int bI, .int cI] (fun U => U.heap.size = sz ∧ va_P (dC, dI) vwCl (WR a k h0 vi vj vF vG) U.heap ∧ va_K (dC, dI) vwCl (tX12 k) U ∧ va_D (fun _ => True) (WR a k h0 vi vj vF vG))) (va_Qi (fun (r : Int32) (u : Unit) => (r = 1 ∧ (RulV kI aI bI cI hn) ∧ ((((kI).toInt = 0 ∧ (0 < (aI).toInt ∧ (aI).toInt < ((1 : Int32) <<< ((vi 128) &&& 31)).toInt)) ∨ ((kI).toInt = 1 ∧ (0 ≤ (aI).toInt ∧ (aI).toInt < ((hn : Nat) : Int)) ∧ (0 ≤ (cI).toInt ∧ (cI).toInt < ((hn : Nat) : Int)) ∧ (-15 ≤ (bI).toInt ∧ (bI).toInt ≤ 15)) ∨ ((kI).toInt = 2 ∧ (0 < (aI).toInt ∧ (aI).toInt < ((1 : Int32) <<< ((vi 128) &&& 31)).toInt) ∧ (-200 ≤ (bI).toInt ∧ (bI).toInt ≤ 200) ∧ (-200 ≤ (cI).toInt ∧ (cI).toInt ≤ 200)) ∨ ((kI).toInt = 3 ∧ (0 < (aI).toInt ∧ (aI).toInt < ((1 : Int32) <<< ((vi 128) &&& 31)).toInt) ∧ (-200 ≤ (bI).toInt ∧ (bI).toInt ≤ 200) ∧ (0 ≤ (cI).toInt ∧ (cI).toInt ≤ 15)) ∨ ((kI).toInt = 4 ∧ (0 ≤ (aI).toInt ∧ (aI).toInt < ((hn : Nat) : Int)) ∧ (0 ≤ (bI).toInt ∧ (bI).toInt < ((hn : Nat) : Int)) ∧ (aI).toInt ≠ (bI).toInt)))) ∨ (r = 0 ∧ (¬ (((kI).toInt = 0 ∧ (0 < (aI).toInt ∧ (aI).toInt < ((1 : Int32) <<< ((vi 128) &&& 31)).toInt)) ∨ ((kI).toInt = 1 ∧ (0 ≤ (aI).toInt ∧ (aI).toInt < ((hn : Nat) : Int)) ∧ (0 ≤ (cI).toInt ∧ (cI).toInt < ((hn : Nat) : Int)) ∧ (-15 ≤ (bI).toInt ∧ (bI).toInt ≤ 15)) ∨ ((kI).toInt = 2 ∧ (0 < (aI).toInt ∧ (aI).toInt < ((1 : Int32) <<< ((vi 128) &&& 31)).toInt) ∧ (-200 ≤ (bI).toInt ∧ (bI).toInt ≤ 200) ∧ (-200 ≤ (cI).toInt ∧ (cI).toInt ≤ 200)) ∨ ((kI).toInt = 3 ∧ (0 < (aI).toInt ∧ (aI).toInt < ((1 : Int32) <<< ((vi 128) &&& 31)).toInt) ∧ (-200 ≤ (bI).toInt ∧ (bI).toInt ≤ 200) ∧ (0 ≤ (cI).toInt ∧ (cI).toInt ≤ 15)) ∨ ((kI).toInt = 4 ∧ (0 ≤ (aI).toInt ∧ (aI).toInt < ((hn : Nat) : Int)) ∧ (0 ≤ (bI).toInt ∧ (bI).toInt < ((hn : Nat) : Int)) ∧ (aI).toInt ≠ (bI).toInt))))) (fun (u : Unit) t => va_P (dC, dI) vwCl (WR a k h0 vi vj vF vG) t.heap ∧ va_D (va_A (WR a k h0 vi vj vF vG) sz) (WR a k h0 vi vj vF vG)) (va_A (WR a k h0 vi vj vF vG) sz)) 0 0 (va_A (WR a k h0 vi vj vF vG) sz) := by
  refine Met.ofW (cc := cX12_isRule) (maxL := 5) (ret := (some .boolean)) (by decide) rfl ?_
  intro p e s m args below meth c s₁ B hml hv
  obtain ⟨rfl, hsz, hP, hK, hD0⟩ := hv
  have hx := B.exec
  have hb := B.bytes
  have hr := B.returns
  have hts := atoms_spec (ws := wsRX12_isRule) B.pre
  have hown : s.vm.findClass RX12 = some m.cls := findClass_of_methodNamed B.named
  have hlocks := B.notSynchronized
  subst hsz
  have hD := hD0.self (sz := s.heap.size)
  generalize hAe : va_A (WR a k h0 vi vj vF vG) s.heap.size = A at hD ⊢
  have hA : ∀ q : Nat, s.heap.size ≤ q → A q := fun q h => by rw [← hAe]; exact Or.inr h
  have hS : va_S A s.heap s.heap [] := va_S.rf
  have hl := lv_entry ([.ref h0, .int kI, .int aI, .int bI, .int cI]) (n := 5) (Nat.le_of_ble_eq_true rfl)
  rw [lg_entry_eq]
  generalize (lg_sl ([.ref h0, .int kI, .int aI, .int bI, .int cI]) ++ List.replicate (5 - (lg_sl ([.ref h0, .int kI, .int aI, .int bI, .int cI])).length) Slot.unset).toArray = ls at hl ⊢
  have hl : lv_has ls 5 [(0, .ref h0), (1, .int kI), (2, .int aI), (3, .int bI), (4, .int cI)] := hl
  refine lv_iload_n hx hb dX12_isRule_0 rfl (lv_at hl 1 rfl) ?_
  by_cases s_1_0 : kI = 0
  · have ts_1_0 : (kI).toInt = 0 := toI_eq s_1_0 rfl (by decide)
    refine lv_tableIn (off := 35) (tgt := 36) hx hb dX12_isRule_1 (by rw [s_1_0]; decide) (by rw [s_1_0]; decide) (by rw [s_1_0]; decide) (by decide) ?_
    refine lv_aload_n hx hb dX12_isRule_36 rfl (lv_at hl 0 rfl) ?_
    refine lv_iload_n hx hb dX12_isRule_37 rfl (lv_at hl 2 rfl) ?_
    have hFc := allFree hD hS hA
    refine va_calli (va_runV (As := [.int aI]) (rest := []) ⟨hx, hb, hml, hown, hts⟩ (r_X12_isSet l dC dI a k h0 vi vj vF vG aI s.heap.size) (cwV 1 hts gwsRX12_isRule_0 rfl rfl rfl hd_yX12_isSet_RX12 (by decide +kernel)) (fz_pre (va_recv hK hP (ci := 12) (q0 := 0) rfl rfl) hP hK hD) rfl rfl hl.1 rfl (lv_room (Nat.le_of_ble_eq_true rfl)) dX12_isRule_38 (by decide +kernel)) hS (fun q _ h => hFc q h) hFc (fun r38 u t9_ H locs ht hvm hw9 hB9 hz1 hk1 hS => ?_)
    have hP : va_P (dC, dI) vwCl (WR a k h0 vi vj vF vG) H := fz_P ht hB9.1
    have hD := fz_sd hP (hB9.2.weaken (fun _ q _ h => hFc q.1 h)) rfl
    rcases hw9 with ⟨rfl, f38_0⟩ | ⟨rfl, f38_0⟩
    · have f38_0 : (0 < (aI).toInt ∧ (aI).toInt < ((1 : Int32) <<< ((vi 128) &&& 31)).toInt) := f38_0
      refine W.widen (k := 0) (n := 0) (by decide +kernel) (by decide +kernel) ?_
      exact W.zret (v := 1) hx hb hr rfl (fun t9_ ht hW => ⟨⟨1, (), rfl, by (try dsimp only); exact Or.inl ⟨rfl, Or.inl (Or.inl s_1_0), Or.inl ⟨ts_1_0, f38_0⟩⟩, by rw [ht]; exact hP, hD⟩, hS.F ht⟩) hS.2.2 dX12_isRule_41
    · have f38_0 : ¬ (0 < (aI).toInt ∧ (aI).toInt < ((1 : Int32) <<< ((vi 128) &&& 31)).toInt) := f38_0
      refine W.widen (k := 0) (n := 0) (by decide +kernel) (by decide +kernel) ?_
      exact W.zret (v := 0) hx hb hr rfl (fun t9_ ht hW => ⟨⟨0, (), rfl, by (try dsimp only); exact Or.inr ⟨rfl, fun h9 => by rcases h9 with h9 | h9 | h9 | h9 | h9 <;> omega⟩, by rw [ht]; exact hP, hD⟩, hS.F ht⟩) hS.2.2 dX12_isRule_41
  · have ts_1_0 : ¬ (kI).toInt = 0 := toI_neq s_1_0 rfl (by decide)
    by_cases s_1_1 : kI = 1
    · have ts_1_1 : (kI).toInt = 1 := toI_eq s_1_1 rfl (by decide)
      refine lv_tableIn (off := 41) (tgt := 42) hx hb dX12_isRule_1 (by rw [s_1_1]; decide) (by rw [s_1_1]; decide) (by rw [s_1_1]; decide) (by decide) ?_
      refine lv_aload_n hx hb dX12_isRule_42 rfl (lv_at hl 0 rfl) ?_
      refine lv_iload_n hx hb dX12_isRule_43 rfl (lv_at hl 2 rfl) ?_
      have hFc := allFree hD hS hA
      refine va_calli (va_runV (As := [.int aI]) (rest := []) ⟨hx, hb, hml, hown, hts⟩ (r_X12_isHolder l dC dI a k h0 vi vj vF vG aI hn hhn (by first | with_reducible assumption | decide | omega | rfl | assumption) s.heap.size) (cwV 1 hts gwsRX12_isRule_1 rfl rfl rfl hd_yX12_isHolder_RX12 (by decide +kernel)) (fz_pre (va_recv hK hP (ci := 12) (q0 := 0) rfl rfl) hP hK hD) rfl rfl hl.1 rfl (lv_room (Nat.le_of_ble_eq_true rfl)) dX12_isRule_44 (by decide +kernel)) hS (fun q _ h => hFc q h) hFc (fun r44 u t9_ H locs ht hvm hw9 hB9 hz1 hk1 hS => ?_)
      have hP : va_P (dC, dI) vwCl (WR a k h0 vi vj vF vG) H := fz_P ht hB9.1
      have hD := fz_sd hP (hB9.2.weaken (fun _ q _ h => hFc q.1 h)) rfl
      rcases hw9 with ⟨rfl, f44_0, f44_1⟩ | ⟨rfl, f44_0⟩
      · refine lv_if_eq (tgt := 75) hx hb dX12_isRule_47 (by decide) (fun c9 => absurd c9 (by decide)) (fun _ => ?_)
        refine lv_aload_n hx hb dX12_isRule_50 rfl (lv_at hl 0 rfl) ?_
        refine lv_iload hx hb dX12_isRule_51 (lv_at hl 4 rfl) ?_
        have hFc := allFree hD hS hA
        refine va_calli (va_runV (As := [.int cI]) (rest := []) ⟨hx, hb, hml, hown, hts⟩ (r_X12_isHolder l dC dI a k h0 vi vj vF vG cI hn hhn (by first | with_reducible assumption | decide | omega | rfl | assumption) H.size) (cwV 1 hts gwsRX12_isRule_1 rfl rfl rfl hd_yX12_isHolder_RX12 (by decide +kernel)) (fz_pre (va_recv hK hP (ci := 12) (q0 := 0) rfl rfl) hP hK hD) rfl rfl hl.1 rfl (lv_room (Nat.le_of_ble_eq_true rfl)) dX12_isRule_53 (by decide +kernel)) hS (fun q _ h => hFc q h) hFc (fun r53 u t9_ H locs ht hvm hw9 hB9 hz1 hk1 hS => ?_)
        have hP : va_P (dC, dI) vwCl (WR a k h0 vi vj vF vG) H := fz_P ht hB9.1
        have hD := fz_sd hP (hB9.2.weaken (fun _ q _ h => hFc q.1 h)) rfl
        rcases hw9 with ⟨rfl, f53_0, f53_1⟩ | ⟨rfl, f53_0⟩
        · refine lv_if_eq (tgt := 75) hx hb dX12_isRule_56 (by decide) (fun c9 => absurd c9 (by decide)) (fun _ => ?_)
          refine lv_iload_n hx hb dX12_isRule_59 rfl (lv_at hl 3 rfl) ?_
          refine lv_bipush (v := (-15)) hx hb dX12_isRule_60 (by decide) ?_
          refine lv_icmp_lt (tgt := 75) hx hb dX12_isRule_62 (by decide) (fun c_62 => ?_) (fun c_62 => ?_)
          · have t_62 : (bI).toInt < -15 := toI_lt c_62 rfl (by decide)
            refine lv_iconst (v := 0) hx hb dX12_isRule_75 (by decide) ?_
            refine W.widen (k := 0) (n := 0) (by decide +kernel) (by decide +kernel) ?_
            exact W.zret (v := 0) hx hb hr rfl (fun t9_ ht hW => ⟨⟨0, (), rfl, by (try dsimp only); exact Or.inr ⟨rfl, fun h9 => by rcases h9 with h9 | h9 | h9 | h9 | h9 <;> omega⟩, by rw [ht]; exact hP, hD⟩, hS.F ht⟩) hS.2.2 dX12_isRule_76
          · have t_62 : ¬ (bI).toInt < -15 := toI_nlt c_62 rfl (by decide)
            refine lv_iload_n hx hb dX12_isRule_65 rfl (lv_at hl 3 rfl) ?_
            refine lv_bipush (v := 15) hx hb dX12_isRule_66 (by decide) ?_
            refine lv_icmp_gt (tgt := 75) hx hb dX12_isRule_68 (by decide) (fun c_68 => ?_) (fun c_68 => ?_)
            · have t_68 : (bI).toInt > 15 := toI_gt c_68 rfl (by decide)
              refine lv_iconst (v := 0) hx hb dX12_isRule_75 (by decide) ?_
              refine W.widen (k := 0) (n := 0) (by decide +kernel) (by decide +kernel) ?_
              exact W.zret (v := 0) hx hb hr rfl (fun t9_ ht hW => ⟨⟨0, (), rfl, by (try dsimp only); exact Or.inr ⟨rfl, fun h9 => by rcases h9 with h9 | h9 | h9 | h9 | h9 <;> omega⟩, by rw [ht]; exact hP, hD⟩, hS.F ht⟩) hS.2.2 dX12_isRule_76
            · have t_68 : ¬ (bI).toInt > 15 := toI_ngt c_68 rfl (by decide)
              refine lv_iconst (v := 1) hx hb dX12_isRule_71 (by decide) ?_
              refine lv_goto (tgt := 76) hx hb dX12_isRule_72 (by decide) ?_
              refine W.widen (k := 0) (n := 0) (by decide +kernel) (by decide +kernel) ?_
              exact W.zret (v := 1) hx hb hr rfl (fun t9_ ht hW => ⟨⟨1, (), rfl, by (try dsimp only); exact Or.inl ⟨rfl, Or.inr (Or.inl ⟨s_1_1, f44_0, f53_0⟩), Or.inr (Or.inl ⟨ts_1_1, f44_1, f53_1, by omega, by omega⟩)⟩, by rw [ht]; exact hP, hD⟩, hS.F ht⟩) hS.2.2 dX12_isRule_76
        · refine lv_if_eq (tgt := 75) hx hb dX12_isRule_56 (by decide) (fun _ => ?_) (fun c9 => absurd (by decide) c9)
          refine lv_iconst (v := 0) hx hb dX12_isRule_75 (by decide) ?_
          refine W.widen (k := 0) (n := 0) (by decide +kernel) (by decide +kernel) ?_
          exact W.zret (v := 0) hx hb hr rfl (fun t9_ ht hW => ⟨⟨0, (), rfl, by (try dsimp only); exact Or.inr ⟨rfl, fun h9 => by rcases h9 with h9 | h9 | h9 | h9 | h9 <;> omega⟩, by rw [ht]; exact hP, hD⟩, hS.F ht⟩) hS.2.2 dX12_isRule_76
      · refine lv_if_eq (tgt := 75) hx hb dX12_isRule_47 (by decide) (fun _ => ?_) (fun c9 => absurd (by decide) c9)
        refine lv_iconst (v := 0) hx hb dX12_isRule_75 (by decide) ?_
        refine W.widen (k := 0) (n := 0) (by decide +kernel) (by decide +kernel) ?_
        exact W.zret (v := 0) hx hb hr rfl (fun t9_ ht hW => ⟨⟨0, (), rfl, by (try dsimp only); exact Or.inr ⟨rfl, fun h9 => by rcases h9 with h9 | h9 | h9 | h9 | h9 <;> omega⟩, by rw [ht]; exact hP, hD⟩, hS.F ht⟩) hS.2.2 dX12_isRule_76
    · have ts_1_1 : ¬ (kI).toInt = 1 := toI_neq s_1_1 rfl (by decide)
      by_cases s_1_2 : kI = 2
      · have ts_1_2 : (kI).toInt = 2 := toI_eq s_1_2 rfl (by decide)
        refine lv_tableIn (off := 76) (tgt := 77) hx hb dX12_isRule_1 (by rw [s_1_2]; decide) (by rw [s_1_2]; decide) (by rw [s_1_2]; decide) (by decide) ?_
        refine lv_aload_n hx hb dX12_isRule_77 rfl (lv_at hl 0 rfl) ?_
        refine lv_iload_n hx hb dX12_isRule_78 rfl (lv_at hl 2 rfl) ?_
        have hFc := allFree hD hS hA
        refine va_calli (va_runV (As := [.int aI]) (rest := []) ⟨hx, hb, hml, hown, hts⟩ (r_X12_isSet l dC dI a k h0 vi vj vF vG aI s.heap.size) (cwV 1 hts gwsRX12_isRule_0 rfl rfl rfl hd_yX12_isSet_RX12 (by decide +kernel)) (fz_pre (va_recv hK hP (ci := 12) (q0 := 0) rfl rfl) hP hK hD) rfl rfl hl.1 rfl (lv_room (Nat.le_of_ble_eq_true rfl)) dX12_isRule_79 (by decide +kernel)) hS (fun q _ h => hFc q h) hFc (fun r79 u t9_ H locs ht hvm hw9 hB9 hz1 hk1 hS => ?_)
        have hP : va_P (dC, dI) vwCl (WR a k h0 vi vj vF vG) H := fz_P ht hB9.1
        have hD := fz_sd hP (hB9.2.weaken (fun _ q _ h => hFc q.1 h)) rfl
        rcases hw9 with ⟨rfl, f79_0⟩ | ⟨rfl, f79_0⟩
        · have f79_0 : (0 < (aI).toInt ∧ (aI).toInt < ((1 : Int32) <<< ((vi 128) &&& 31)).toInt) := f79_0
          refine lv_if_eq (tgt := 119) hx hb dX12_isRule_82 (by decide) (fun c9 => absurd c9 (by decide)) (fun _ => ?_)
          refine lv_iload_n hx hb dX12_isRule_85 rfl (lv_at hl 3 rfl) ?_
          refine lv_sipush (v := (-200)) hx hb dX12_isRule_86 (by decide) ?_
          refine lv_icmp_lt (tgt := 119) hx hb dX12_isRule_89 (by decide) (fun c_89 => ?_) (fun c_89 => ?_)
          · have t_89 : (bI).toInt < -200 := toI_lt c_89 rfl (by decide)
            refine lv_iconst (v := 0) hx hb dX12_isRule_119 (by decide) ?_
            refine W.widen (k := 0) (n := 0) (by decide +kernel) (by decide +kernel) ?_
            exact W.zret (v := 0) hx hb hr rfl (fun t9_ ht hW => ⟨⟨0, (), rfl, by (try dsimp only); exact Or.inr ⟨rfl, fun h9 => by rcases h9 with h9 | h9 | h9 | h9 | h9 <;> omega⟩, by rw [ht]; exact hP, hD⟩, hS.F ht⟩) hS.2.2 dX12_isRule_120
          · have t_89 : ¬ (bI).toInt < -200 := toI_nlt c_89 rfl (by decide)
            refine lv_iload_n hx hb dX12_isRule_92 rfl (lv_at hl 3 rfl) ?_
            refine lv_sipush (v := 200) hx hb dX12_isRule_93 (by decide) ?_
            refine lv_icmp_gt (tgt := 119) hx hb dX12_isRule_96 (by decide) (fun c_96 => ?_) (fun c_96 => ?_)
            · have t_96 : (bI).toInt > 200 := toI_gt c_96 rfl (by decide)
              refine lv_iconst (v := 0) hx hb dX12_isRule_119 (by decide) ?_
              refine W.widen (k := 0) (n := 0) (by decide +kernel) (by decide +kernel) ?_
              exact W.zret (v := 0) hx hb hr rfl (fun t9_ ht hW => ⟨⟨0, (), rfl, by (try dsimp only); exact Or.inr ⟨rfl, fun h9 => by rcases h9 with h9 | h9 | h9 | h9 | h9 <;> omega⟩, by rw [ht]; exact hP, hD⟩, hS.F ht⟩) hS.2.2 dX12_isRule_120
            · have t_96 : ¬ (bI).toInt > 200 := toI_ngt c_96 rfl (by decide)
              refine lv_iload hx hb dX12_isRule_99 (lv_at hl 4 rfl) ?_
              refine lv_sipush (v := (-200)) hx hb dX12_isRule_101 (by decide) ?_
              refine lv_icmp_lt (tgt := 119) hx hb dX12_isRule_104 (by decide) (fun c_104 => ?_) (fun c_104 => ?_)
              · have t_104 : (cI).toInt < -200 := toI_lt c_104 rfl (by decide)
                refine lv_iconst (v := 0) hx hb dX12_isRule_119 (by decide) ?_
                refine W.widen (k := 0) (n := 0) (by decide +kernel) (by decide +kernel) ?_
                exact W.zret (v := 0) hx hb hr rfl (fun t9_ ht hW => ⟨⟨0, (), rfl, by (try dsimp only); exact Or.inr ⟨rfl, fun h9 => by rcases h9 with h9 | h9 | h9 | h9 | h9 <;> omega⟩, by rw [ht]; exact hP, hD⟩, hS.F ht⟩) hS.2.2 dX12_isRule_120
              · have t_104 : ¬ (cI).toInt < -200 := toI_nlt c_104 rfl (by decide)
                refine lv_iload hx hb dX12_isRule_107 (lv_at hl 4 rfl) ?_
                refine lv_sipush (v := 200) hx hb dX12_isRule_109 (by decide) ?_
                refine lv_icmp_gt (tgt := 119) hx hb dX12_isRule_112 (by decide) (fun c_112 => ?_) (fun c_112 => ?_)
                · have t_112 : (cI).toInt > 200 := toI_gt c_112 rfl (by decide)
                  refine lv_iconst (v := 0) hx hb dX12_isRule_119 (by decide) ?_
                  refine W.widen (k := 0) (n := 0) (by decide +kernel) (by decide +kernel) ?_
                  exact W.zret (v := 0) hx hb hr rfl (fun t9_ ht hW => ⟨⟨0, (), rfl, by (try dsimp only); exact Or.inr ⟨rfl, fun h9 => by rcases h9 with h9 | h9 | h9 | h9 | h9 <;> omega⟩, by rw [ht]; exact hP, hD⟩, hS.F ht⟩) hS.2.2 dX12_isRule_120
                · have t_112 : ¬ (cI).toInt > 200 := toI_ngt c_112 rfl (by decide)
                  refine lv_iconst (v := 1) hx hb dX12_isRule_115 (by decide) ?_
                  refine lv_goto (tgt := 120) hx hb dX12_isRule_116 (by decide) ?_
                  refine W.widen (k := 0) (n := 0) (by decide +kernel) (by decide +kernel) ?_
                  exact W.zret (v := 1) hx hb hr rfl (fun t9_ ht hW => ⟨⟨1, (), rfl, by (try dsimp only); exact Or.inl ⟨rfl, Or.inl (Or.inr (Or.inl s_1_2)), Or.inr (Or.inr (Or.inl ⟨ts_1_2, f79_0, ⟨by omega, by omega⟩, by omega, by omega⟩))⟩, by rw [ht]; exact hP, hD⟩, hS.F ht⟩) hS.2.2 dX12_isRule_120
        · have f79_0 : ¬ (0 < (aI).toInt ∧ (aI).toInt < ((1 : Int32) <<< ((vi 128) &&& 31)).toInt) := f79_0
          refine lv_if_eq (tgt := 119) hx hb dX12_isRule_82 (by decide) (fun _ => ?_) (fun c9 => absurd (by decide) c9)
          refine lv_iconst (v := 0) hx hb dX12_isRule_119 (by decide) ?_
          refine W.widen (k := 0) (n := 0) (by decide +kernel) (by decide +kernel) ?_
          exact W.zret (v := 0) hx hb hr rfl (fun t9_ ht hW => ⟨⟨0, (), rfl, by (try dsimp only); exact Or.inr ⟨rfl, fun h9 => by rcases h9 with h9 | h9 | h9 | h9 | h9 <;> omega⟩, by rw [ht]; exact hP, hD⟩, hS.F ht⟩) hS.2.2 dX12_isRule_120
      · have ts_1_2 : ¬ (kI).toInt = 2 := toI_neq s_1_2 rfl (by decide)
        by_cases s_1_3 : kI = 3
        · have ts_1_3 : (kI).toInt = 3 := toI_eq s_1_3 rfl (by decide)
          refine lv_tableIn (off := 120) (tgt := 121) hx hb dX12_isRule_1 (by rw [s_1_3]; decide) (by rw [s_1_3]; decide) (by rw [s_1_3]; decide) (by decide) ?_
          refine lv_aload_n hx hb dX12_isRule_121 rfl (lv_at hl 0 rfl) ?_
          refine lv_iload_n hx hb dX12_isRule_122 rfl (lv_at hl 2 rfl) ?_
          have hFc := allFree hD hS hA
          refine va_calli (va_runV (As := [.int aI]) (rest := []) ⟨hx, hb, hml, hown, hts⟩ (r_X12_isSet l dC dI a k h0 vi vj vF vG aI s.heap.size) (cwV 1 hts gwsRX12_isRule_0 rfl rfl rfl hd_yX12_isSet_RX12 (by decide +kernel)) (fz_pre (va_recv hK hP (ci := 12) (q0 := 0) rfl rfl) hP hK hD) rfl rfl hl.1 rfl (lv_room (Nat.le_of_ble_eq_true rfl)) dX12_isRule_123 (by decide +kernel)) hS (fun q _ h => hFc q h) hFc (fun r123 u t9_ H locs ht hvm hw9 hB9 hz1 hk1 hS => ?_)
          have hP : va_P (dC, dI) vwCl (WR a k h0 vi vj vF vG) H := fz_P ht hB9.1
          have hD := fz_sd hP (hB9.2.weaken (fun _ q _ h => hFc q.1 h)) rfl
          rcases hw9 with ⟨rfl, f123_0⟩ | ⟨rfl, f123_0⟩
          · have f123_0 : (0 < (aI).toInt ∧ (aI).toInt < ((1 : Int32) <<< ((vi 128) &&& 31)).toInt) := f123_0
            refine lv_if_eq (tgt := 159) hx hb dX12_isRule_126 (by decide) (fun c9 => absurd c9 (by decide)) (fun _ => ?_)
            refine lv_iload_n hx hb dX12_isRule_129 rfl (lv_at hl 3 rfl) ?_
            refine lv_sipush (v := (-200)) hx hb dX12_isRule_130 (by decide) ?_
            refine lv_icmp_lt (tgt := 159) hx hb dX12_isRule_133 (by decide) (fun c_133 => ?_) (fun c_133 => ?_)
            · have t_133 : (bI).toInt < -200 := toI_lt c_133 rfl (by decide)
              refine lv_iconst (v := 0) hx hb dX12_isRule_159 (by decide) ?_
              refine W.widen (k := 0) (n := 0) (by decide +kernel) (by decide +kernel) ?_
              exact W.zret (v := 0) hx hb hr rfl (fun t9_ ht hW => ⟨⟨0, (), rfl, by (try dsimp only); exact Or.inr ⟨rfl, fun h9 => by rcases h9 with h9 | h9 | h9 | h9 | h9 <;> omega⟩, by rw [ht]; exact hP, hD⟩, hS.F ht⟩) hS.2.2 dX12_isRule_160
            · have t_133 : ¬ (bI).toInt < -200 := toI_nlt c_133 rfl (by decide)
              refine lv_iload_n hx hb dX12_isRule_136 rfl (lv_at hl 3 rfl) ?_
              refine lv_sipush (v := 200) hx hb dX12_isRule_137 (by decide) ?_
              refine lv_icmp_gt (tgt := 159) hx hb dX12_isRule_140 (by decide) (fun c_140 => ?_) (fun c_140 => ?_)
              · have t_140 : (bI).toInt > 200 := toI_gt c_140 rfl (by decide)
                refine lv_iconst (v := 0) hx hb dX12_isRule_159 (by decide) ?_
                refine W.widen (k := 0) (n := 0) (by decide +kernel) (by decide +kernel) ?_
                exact W.zret (v := 0) hx hb hr rfl (fun t9_ ht hW => ⟨⟨0, (), rfl, by (try dsimp only); exact Or.inr ⟨rfl, fun h9 => by rcases h9 with h9 | h9 | h9 | h9 | h9 <;> omega⟩, by rw [ht]; exact hP, hD⟩, hS.F ht⟩) hS.2.2 dX12_isRule_160
              · have t_140 : ¬ (bI).toInt > 200 := toI_ngt c_140 rfl (by decide)
                refine lv_iload hx hb dX12_isRule_143 (lv_at hl 4 rfl) ?_
                refine lv_if_lt (tgt := 159) hx hb dX12_isRule_145 (by decide) (fun c_145 => ?_) (fun c_145 => ?_)
                · have t_145 : (cI).toInt < 0 := toI_lt c_145 rfl (by decide)
                  refine lv_iconst (v := 0) hx hb dX12_isRule_159 (by decide) ?_
                  refine W.widen (k := 0) (n := 0) (by decide +kernel) (by decide +kernel) ?_
                  exact W.zret (v := 0) hx hb hr rfl (fun t9_ ht hW => ⟨⟨0, (), rfl, by (try dsimp only); exact Or.inr ⟨rfl, fun h9 => by rcases h9 with h9 | h9 | h9 | h9 | h9 <;> omega⟩, by rw [ht]; exact hP, hD⟩, hS.F ht⟩) hS.2.2 dX12_isRule_160
                · have t_145 : ¬ (cI).toInt < 0 := toI_nlt c_145 rfl (by decide)
                  refine lv_iload hx hb dX12_isRule_148 (lv_at hl 4 rfl) ?_
                  refine lv_bipush (v := 16) hx hb dX12_isRule_150 (by decide) ?_
                  refine lv_icmp_ge (tgt := 159) hx hb dX12_isRule_152 (by decide) (fun c_152 => ?_) (fun c_152 => ?_)
                  · have t_152 : (cI).toInt ≥ 16 := toI_ge c_152 rfl (by decide)
                    refine lv_iconst (v := 0) hx hb dX12_isRule_159 (by decide) ?_
                    refine W.widen (k := 0) (n := 0) (by decide +kernel) (by decide +kernel) ?_
                    exact W.zret (v := 0) hx hb hr rfl (fun t9_ ht hW => ⟨⟨0, (), rfl, by (try dsimp only); exact Or.inr ⟨rfl, fun h9 => by rcases h9 with h9 | h9 | h9 | h9 | h9 <;> omega⟩, by rw [ht]; exact hP, hD⟩, hS.F ht⟩) hS.2.2 dX12_isRule_160
                  · have t_152 : ¬ (cI).toInt ≥ 16 := toI_nge c_152 rfl (by decide)
                    refine lv_iconst (v := 1) hx hb dX12_isRule_155 (by decide) ?_
                    refine lv_goto (tgt := 160) hx hb dX12_isRule_156 (by decide) ?_
                    refine W.widen (k := 0) (n := 0) (by decide +kernel) (by decide +kernel) ?_
                    exact W.zret (v := 1) hx hb hr rfl (fun t9_ ht hW => ⟨⟨1, (), rfl, by (try dsimp only); exact Or.inl ⟨rfl, Or.inl (Or.inr (Or.inr s_1_3)), Or.inr (Or.inr (Or.inr (Or.inl ⟨ts_1_3, f123_0, ⟨by omega, by omega⟩, by omega, by omega⟩)))⟩, by rw [ht]; exact hP, hD⟩, hS.F ht⟩) hS.2.2 dX12_isRule_160
          · have f123_0 : ¬ (0 < (aI).toInt ∧ (aI).toInt < ((1 : Int32) <<< ((vi 128) &&& 31)).toInt) := f123_0
            refine lv_if_eq (tgt := 159) hx hb dX12_isRule_126 (by decide) (fun _ => ?_) (fun c9 => absurd (by decide) c9)
            refine lv_iconst (v := 0) hx hb dX12_isRule_159 (by decide) ?_
            refine W.widen (k := 0) (n := 0) (by decide +kernel) (by decide +kernel) ?_
            exact W.zret (v := 0) hx hb hr rfl (fun t9_ ht hW => ⟨⟨0, (), rfl, by (try dsimp only); exact Or.inr ⟨rfl, fun h9 => by rcases h9 with h9 | h9 | h9 | h9 | h9 <;> omega⟩, by rw [ht]; exact hP, hD⟩, hS.F ht⟩) hS.2.2 dX12_isRule_160
        · have ts_1_3 : ¬ (kI).toInt = 3 := toI_neq s_1_3 rfl (by decide)
          by_cases s_1_4 : kI = 4
          · have ts_1_4 : (kI).toInt = 4 := toI_eq s_1_4 rfl (by decide)
            refine lv_tableIn (off := 160) (tgt := 161) hx hb dX12_isRule_1 (by rw [s_1_4]; decide) (by rw [s_1_4]; decide) (by rw [s_1_4]; decide) (by decide) ?_
            refine lv_aload_n hx hb dX12_isRule_161 rfl (lv_at hl 0 rfl) ?_
            refine lv_iload_n hx hb dX12_isRule_162 rfl (lv_at hl 2 rfl) ?_
            have hFc := allFree hD hS hA
            refine va_calli (va_runV (As := [.int aI]) (rest := []) ⟨hx, hb, hml, hown, hts⟩ (r_X12_isHolder l dC dI a k h0 vi vj vF vG aI hn hhn (by first | with_reducible assumption | decide | omega | rfl | assumption) s.heap.size) (cwV 1 hts gwsRX12_isRule_1 rfl rfl rfl hd_yX12_isHolder_RX12 (by decide +kernel)) (fz_pre (va_recv hK hP (ci := 12) (q0 := 0) rfl rfl) hP hK hD) rfl rfl hl.1 rfl (lv_room (Nat.le_of_ble_eq_true rfl)) dX12_isRule_163 (by decide +kernel)) hS (fun q _ h => hFc q h) hFc (fun r163 u t9_ H locs ht hvm hw9 hB9 hz1 hk1 hS => ?_)
            have hP : va_P (dC, dI) vwCl (WR a k h0 vi vj vF vG) H := fz_P ht hB9.1
            have hD := fz_sd hP (hB9.2.weaken (fun _ q _ h => hFc q.1 h)) rfl
            rcases hw9 with ⟨rfl, f163_0, f163_1⟩ | ⟨rfl, f163_0⟩
            · refine lv_if_eq (tgt := 186) hx hb dX12_isRule_166 (by decide) (fun c9 => absurd c9 (by decide)) (fun _ => ?_)
              refine lv_aload_n hx hb dX12_isRule_169 rfl (lv_at hl 0 rfl) ?_
              refine lv_iload_n hx hb dX12_isRule_170 rfl (lv_at hl 3 rfl) ?_
              have hFc := allFree hD hS hA
              refine va_calli (va_runV (As := [.int bI]) (rest := []) ⟨hx, hb, hml, hown, hts⟩ (r_X12_isHolder l dC dI a k h0 vi vj vF vG bI hn hhn (by first | with_reducible assumption | decide | omega | rfl | assumption) H.size) (cwV 1 hts gwsRX12_isRule_1 rfl rfl rfl hd_yX12_isHolder_RX12 (by decide +kernel)) (fz_pre (va_recv hK hP (ci := 12) (q0 := 0) rfl rfl) hP hK hD) rfl rfl hl.1 rfl (lv_room (Nat.le_of_ble_eq_true rfl)) dX12_isRule_171 (by decide +kernel)) hS (fun q _ h => hFc q h) hFc (fun r171 u t9_ H locs ht hvm hw9 hB9 hz1 hk1 hS => ?_)
              have hP : va_P (dC, dI) vwCl (WR a k h0 vi vj vF vG) H := fz_P ht hB9.1
              have hD := fz_sd hP (hB9.2.weaken (fun _ q _ h => hFc q.1 h)) rfl
              rcases hw9 with ⟨rfl, f171_0, f171_1⟩ | ⟨rfl, f171_0⟩
              · refine lv_if_eq (tgt := 186) hx hb dX12_isRule_174 (by decide) (fun c9 => absurd c9 (by decide)) (fun _ => ?_)
                refine lv_iload_n hx hb dX12_isRule_177 rfl (lv_at hl 2 rfl) ?_
                refine lv_iload_n hx hb dX12_isRule_178 rfl (lv_at hl 3 rfl) ?_
                refine lv_icmp_eq (tgt := 186) hx hb dX12_isRule_179 (by decide) (fun c_179 => ?_) (fun c_179 => ?_)
                · have t_179 : (aI).toInt = (bI).toInt := toI_eq c_179 rfl rfl
                  refine lv_iconst (v := 0) hx hb dX12_isRule_186 (by decide) ?_
                  refine W.widen (k := 0) (n := 0) (by decide +kernel) (by decide +kernel) ?_
                  exact W.zret (v := 0) hx hb hr rfl (fun t9_ ht hW => ⟨⟨0, (), rfl, by (try dsimp only); exact Or.inr ⟨rfl, fun h9 => by rcases h9 with h9 | h9 | h9 | h9 | h9 <;> omega⟩, by rw [ht]; exact hP, hD⟩, hS.F ht⟩) hS.2.2 dX12_isRule_187
                · have t_179 : ¬ (aI).toInt = (bI).toInt := toI_neq c_179 rfl rfl
                  refine lv_iconst (v := 1) hx hb dX12_isRule_182 (by decide) ?_
                  refine lv_goto (tgt := 187) hx hb dX12_isRule_183 (by decide) ?_
                  refine W.widen (k := 0) (n := 0) (by decide +kernel) (by decide +kernel) ?_
                  exact W.zret (v := 1) hx hb hr rfl (fun t9_ ht hW => ⟨⟨1, (), rfl, by (try dsimp only); exact Or.inl ⟨rfl, Or.inr (Or.inr ⟨s_1_4, f163_0, f171_0⟩), Or.inr (Or.inr (Or.inr (Or.inr ⟨ts_1_4, f163_1, f171_1, by omega⟩)))⟩, by rw [ht]; exact hP, hD⟩, hS.F ht⟩) hS.2.2 dX12_isRule_187
              · refine lv_if_eq (tgt := 186) hx hb dX12_isRule_174 (by decide) (fun _ => ?_) (fun c9 => absurd (by decide) c9)
                refine lv_iconst (v := 0) hx hb dX12_isRule_186 (by decide) ?_
                refine W.widen (k := 0) (n := 0) (by decide +kernel) (by decide +kernel) ?_
                exact W.zret (v := 0) hx hb hr rfl (fun t9_ ht hW => ⟨⟨0, (), rfl, by (try dsimp only); exact Or.inr ⟨rfl, fun h9 => by rcases h9 with h9 | h9 | h9 | h9 | h9 <;> omega⟩, by rw [ht]; exact hP, hD⟩, hS.F ht⟩) hS.2.2 dX12_isRule_187
            · refine lv_if_eq (tgt := 186) hx hb dX12_isRule_166 (by decide) (fun _ => ?_) (fun c9 => absurd (by decide) c9)
              refine lv_iconst (v := 0) hx hb dX12_isRule_186 (by decide) ?_
              refine W.widen (k := 0) (n := 0) (by decide +kernel) (by decide +kernel) ?_
              exact W.zret (v := 0) hx hb hr rfl (fun t9_ ht hW => ⟨⟨0, (), rfl, by (try dsimp only); exact Or.inr ⟨rfl, fun h9 => by rcases h9 with h9 | h9 | h9 | h9 | h9 <;> omega⟩, by rw [ht]; exact hP, hD⟩, hS.F ht⟩) hS.2.2 dX12_isRule_187
          · have ts_1_4 : ¬ (kI).toInt = 4 := toI_neq s_1_4 rfl (by decide)
            refine lv_tableOut (tgt := 188) hx hb dX12_isRule_1 (by have := lv_neT s_1_0 (show Int32.toInt 0 = 0 by decide); have := lv_neT s_1_1 (show Int32.toInt 1 = 1 by decide); have := lv_neT s_1_2 (show Int32.toInt 2 = 2 by decide); have := lv_neT s_1_3 (show Int32.toInt 3 = 3 by decide); have := lv_neT s_1_4 (show Int32.toInt 4 = 4 by decide); omega) (by decide) ?_
            refine lv_iconst (v := 0) hx hb dX12_isRule_188 (by decide) ?_
            refine W.widen (k := 0) (n := 0) (by decide +kernel) (by decide +kernel) ?_
            exact W.zret (v := 0) hx hb hr rfl (fun t9_ ht hW => ⟨⟨0, (), rfl, by (try dsimp only); exact Or.inr ⟨rfl, fun h9 => by rcases h9 with h9 | h9 | h9 | h9 | h9 <;> omega⟩, by rw [ht]; exact hP, hD⟩, hS.F ht⟩) hS.2.2 dX12_isRule_189
theorem dX12_rule_0 : decode cX12_rule 0 = .ok (.aload_n 0, 1) := dk_42 (by decide +kernel)
theorem dX12_rule_1 : decode cX12_rule 1 = .ok (.aload_n 0, 1) := dk_42 (by decide +kernel)
theorem dX12_rule_2 : decode cX12_rule 2 = .ok (.iload_n 1, 1) := dk_27 (by decide +kernel)
theorem dX12_rule_3 : decode cX12_rule 3 = .ok (.iload_n 2, 1) := dk_28 (by decide +kernel)
theorem dX12_rule_4 : decode cX12_rule 4 = .ok (.iload_n 3, 1) := dk_29 (by decide +kernel)
theorem dX12_rule_5 : decode cX12_rule 5 = .ok (.iload 4, 2) := dk_21 (by decide +kernel)
theorem dX12_rule_7 : decode cX12_rule 7 = .ok (.invokevirtual 987, 3) := dk_182 (by decide +kernel)
theorem dX12_rule_10 : decode cX12_rule 10 = .ok (.ifCond .ne 7, 3) := dk_154 (by decide +kernel)
theorem dX12_rule_13 : decode cX12_rule 13 = .ok (.iconst 1, 1) := dk_4 (by decide +kernel)
theorem dX12_rule_14 : decode cX12_rule 14 = .ok (.goto 17, 3) := dk_167 (by decide +kernel)
theorem dX12_rule_17 : decode cX12_rule 17 = .ok (.aload_n 0, 1) := dk_42 (by decide +kernel)
theorem dX12_rule_18 : decode cX12_rule 18 = .ok (.getfield 990, 3) := dk_180 (by decide +kernel)
theorem dX12_rule_21 : decode cX12_rule 21 = .ok (.bipush 12, 2) := dk_16 (by decide +kernel)
theorem dX12_rule_23 : decode cX12_rule 23 = .ok (.if_icmp .ne 7, 3) := dk_160 (by decide +kernel)
theorem dX12_rule_26 : decode cX12_rule 26 = .ok (.iconst 2, 1) := dk_5 (by decide +kernel)
theorem dX12_rule_27 : decode cX12_rule 27 = .ok (.goto 4, 3) := dk_167 (by decide +kernel)
theorem dX12_rule_30 : decode cX12_rule 30 = .ok (.iconst 0, 1) := dk_3 (by decide +kernel)
theorem dX12_rule_31 : decode cX12_rule 31 = .ok (.putfield 348, 3) := dk_181 (by decide +kernel)
theorem dX12_rule_34 : decode cX12_rule 34 = .ok (.aload_n 0, 1) := dk_42 (by decide +kernel)
theorem dX12_rule_35 : decode cX12_rule 35 = .ok (.getfield 348, 3) := dk_180 (by decide +kernel)
theorem dX12_rule_38 : decode cX12_rule 38 = .ok (.ifCond .le 5, 3) := dk_158 (by decide +kernel)
theorem dX12_rule_41 : decode cX12_rule 41 = .ok (.iconst 0, 1) := dk_3 (by decide +kernel)
theorem dX12_rule_42 : decode cX12_rule 42 = .ok (.ireturn, 1) := dk_172 (by decide +kernel)
theorem dX12_rule_43 : decode cX12_rule 43 = .ok (.aload_n 0, 1) := dk_42 (by decide +kernel)
theorem dX12_rule_44 : decode cX12_rule 44 = .ok (.getfield 263, 3) := dk_180 (by decide +kernel)
theorem dX12_rule_47 : decode cX12_rule 47 = .ok (.aload_n 0, 1) := dk_42 (by decide +kernel)
theorem dX12_rule_48 : decode cX12_rule 48 = .ok (.getfield 990, 3) := dk_180 (by decide +kernel)
theorem dX12_rule_51 : decode cX12_rule 51 = .ok (.iload_n 1, 1) := dk_27 (by decide +kernel)
theorem dX12_rule_52 : decode cX12_rule 52 = .ok (.iastore, 1) := dk_79 (by decide +kernel)
theorem dX12_rule_53 : decode cX12_rule 53 = .ok (.aload_n 0, 1) := dk_42 (by decide +kernel)
theorem dX12_rule_54 : decode cX12_rule 54 = .ok (.getfield 266, 3) := dk_180 (by decide +kernel)
theorem dX12_rule_57 : decode cX12_rule 57 = .ok (.aload_n 0, 1) := dk_42 (by decide +kernel)
theorem dX12_rule_58 : decode cX12_rule 58 = .ok (.getfield 990, 3) := dk_180 (by decide +kernel)
theorem dX12_rule_61 : decode cX12_rule 61 = .ok (.iload_n 2, 1) := dk_28 (by decide +kernel)
theorem dX12_rule_62 : decode cX12_rule 62 = .ok (.iastore, 1) := dk_79 (by decide +kernel)
theorem dX12_rule_63 : decode cX12_rule 63 = .ok (.aload_n 0, 1) := dk_42 (by decide +kernel)
theorem dX12_rule_64 : decode cX12_rule 64 = .ok (.getfield 269, 3) := dk_180 (by decide +kernel)
theorem dX12_rule_67 : decode cX12_rule 67 = .ok (.aload_n 0, 1) := dk_42 (by decide +kernel)
theorem dX12_rule_68 : decode cX12_rule 68 = .ok (.getfield 990, 3) := dk_180 (by decide +kernel)
theorem dX12_rule_71 : decode cX12_rule 71 = .ok (.iload_n 3, 1) := dk_29 (by decide +kernel)
theorem dX12_rule_72 : decode cX12_rule 72 = .ok (.iastore, 1) := dk_79 (by decide +kernel)
theorem dX12_rule_73 : decode cX12_rule 73 = .ok (.aload_n 0, 1) := dk_42 (by decide +kernel)
theorem dX12_rule_74 : decode cX12_rule 74 = .ok (.getfield 272, 3) := dk_180 (by decide +kernel)
theorem dX12_rule_77 : decode cX12_rule 77 = .ok (.aload_n 0, 1) := dk_42 (by decide +kernel)
theorem dX12_rule_78 : decode cX12_rule 78 = .ok (.getfield 990, 3) := dk_180 (by decide +kernel)
theorem dX12_rule_81 : decode cX12_rule 81 = .ok (.iload 4, 2) := dk_21 (by decide +kernel)
theorem dX12_rule_83 : decode cX12_rule 83 = .ok (.iastore, 1) := dk_79 (by decide +kernel)
theorem dX12_rule_84 : decode cX12_rule 84 = .ok (.iconst 0, 1) := dk_3 (by decide +kernel)
theorem dX12_rule_85 : decode cX12_rule 85 = .ok (.istore 5, 2) := dk_54 (by decide +kernel)
theorem dX12_rule_87 : decode cX12_rule 87 = .ok (.iload 5, 2) := dk_21 (by decide +kernel)
theorem dX12_rule_89 : decode cX12_rule 89 = .ok (.bipush 16, 2) := dk_16 (by decide +kernel)
theorem dX12_rule_91 : decode cX12_rule 91 = .ok (.if_icmp .ge 31, 3) := dk_162 (by decide +kernel)
theorem dX12_rule_94 : decode cX12_rule 94 = .ok (.aload_n 0, 1) := dk_42 (by decide +kernel)
theorem dX12_rule_95 : decode cX12_rule 95 = .ok (.getfield 275, 3) := dk_180 (by decide +kernel)
theorem dX12_rule_98 : decode cX12_rule 98 = .ok (.bipush 16, 2) := dk_16 (by decide +kernel)
theorem dX12_rule_100 : decode cX12_rule 100 = .ok (.aload_n 0, 1) := dk_42 (by decide +kernel)
theorem dX12_rule_101 : decode cX12_rule 101 = .ok (.getfield 990, 3) := dk_180 (by decide +kernel)
theorem dX12_rule_104 : decode cX12_rule 104 = .ok (.imul, 1) := dk_104 (by decide +kernel)
theorem dX12_rule_105 : decode cX12_rule 105 = .ok (.iload 5, 2) := dk_21 (by decide +kernel)
theorem dX12_rule_107 : decode cX12_rule 107 = .ok (.iadd, 1) := dk_96 (by decide +kernel)
theorem dX12_rule_108 : decode cX12_rule 108 = .ok (.aload_n 0, 1) := dk_42 (by decide +kernel)
theorem dX12_rule_109 : decode cX12_rule 109 = .ok (.getfield 278, 3) := dk_180 (by decide +kernel)
theorem dX12_rule_112 : decode cX12_rule 112 = .ok (.iload 5, 2) := dk_21 (by decide +kernel)
theorem dX12_rule_114 : decode cX12_rule 114 = .ok (.iaload, 1) := dk_46 (by decide +kernel)
theorem dX12_rule_115 : decode cX12_rule 115 = .ok (.iastore, 1) := dk_79 (by decide +kernel)
theorem dX12_rule_116 : decode cX12_rule 116 = .ok (.iinc 5 1, 3) := dk_132 (by decide +kernel)
theorem dX12_rule_119 : decode cX12_rule 119 = .ok (.goto (-32), 3) := dk_167 (by decide +kernel)
theorem dX12_rule_122 : decode cX12_rule 122 = .ok (.aload_n 0, 1) := dk_42 (by decide +kernel)
theorem dX12_rule_123 : decode cX12_rule 123 = .ok (.dup, 1) := dk_89 (by decide +kernel)
theorem dX12_rule_124 : decode cX12_rule 124 = .ok (.getfield 990, 3) := dk_180 (by decide +kernel)
theorem dX12_rule_127 : decode cX12_rule 127 = .ok (.iconst 1, 1) := dk_4 (by decide +kernel)
theorem dX12_rule_128 : decode cX12_rule 128 = .ok (.iadd, 1) := dk_96 (by decide +kernel)
theorem dX12_rule_129 : decode cX12_rule 129 = .ok (.putfield 990, 3) := dk_181 (by decide +kernel)
theorem dX12_rule_132 : decode cX12_rule 132 = .ok (.aload_n 0, 1) := dk_42 (by decide +kernel)
theorem dX12_rule_133 : decode cX12_rule 133 = .ok (.iconst (-1), 1) := dk_2 (by decide +kernel)
theorem dX12_rule_134 : decode cX12_rule 134 = .ok (.putfield 300, 3) := dk_181 (by decide +kernel)
theorem dX12_rule_137 : decode cX12_rule 137 = .ok (.aload_n 0, 1) := dk_42 (by decide +kernel)
theorem dX12_rule_138 : decode cX12_rule 138 = .ok (.getfield 990, 3) := dk_180 (by decide +kernel)
theorem dX12_rule_141 : decode cX12_rule 141 = .ok (.iconst 1, 1) := dk_4 (by decide +kernel)
theorem dX12_rule_142 : decode cX12_rule 142 = .ok (.isub, 1) := dk_100 (by decide +kernel)
theorem dX12_rule_143 : decode cX12_rule 143 = .ok (.ireturn, 1) := dk_172 (by decide +kernel)
def wsRX12_rule : List Cond := .code yX12_rule cX12_rule 6 (some .int) :: ([.fieldLink RX12 990 "OptimaWorksModel" "rules" "I", .fieldLink RX12 348 "OptimaWorksModel" "thrown" "I", .fieldLink RX12 263 "OptimaWorksModel" "ruleKind" "[I", .fieldLink RX12 266 "OptimaWorksModel" "ruleA" "[I", .fieldLink RX12 269 "OptimaWorksModel" "ruleB" "[I", .fieldLink RX12 272 "OptimaWorksModel" "ruleC" "[I", .fieldLink RX12 300 "OptimaWorksModel" "listedMany" "I", .fieldLink RX12 275 "OptimaWorksModel" "rulePairs" "[I", .fieldLink RX12 278 "OptimaWorksModel" "pairs" "[I"] ++ wsX120 ++ (wsV RX12 987 RX12 yX12_isRule wsRX12_isRule))
theorem iwsRX12_rule_in12 : ∀ w ∈ wsX120, w ∈ wsRX12_rule := fun _ h => List.mem_cons_of_mem _ (List.mem_append_left _ (List.mem_append_right _ h))
theorem gwsRX12_rule_0 : GoodIn wsRX12_rule (wsV RX12 987 RX12 yX12_isRule wsRX12_isRule) := goodIn_sub (fun _ h => List.mem_cons_of_mem _ (List.mem_append_right _ h)) (gdV (by decide +kernel) gdwsRX12_isRule)
theorem gdwsRX12_rule : wsRX12_rule.all goodWord = true := gdC rfl (gdA (gdA (by decide +kernel : ([.fieldLink RX12 990 "OptimaWorksModel" "rules" "I", .fieldLink RX12 348 "OptimaWorksModel" "thrown" "I", .fieldLink RX12 263 "OptimaWorksModel" "ruleKind" "[I", .fieldLink RX12 266 "OptimaWorksModel" "ruleA" "[I", .fieldLink RX12 269 "OptimaWorksModel" "ruleB" "[I", .fieldLink RX12 272 "OptimaWorksModel" "ruleC" "[I", .fieldLink RX12 300 "OptimaWorksModel" "listedMany" "I", .fieldLink RX12 275 "OptimaWorksModel" "rulePairs" "[I", .fieldLink RX12 278 "OptimaWorksModel" "pairs" "[I"] : List Cond).all goodWord = true) gdwsX120) (gdV (by decide +kernel) gdwsRX12_isRule))
theorem hm_r_X12_rule_0 : (.fieldLink RX12 990 "OptimaWorksModel" "rules" "I" : Cond) ∈ wsRX12_rule := by decide +kernel
theorem hm_r_X12_rule_1 : (.fieldLink RX12 348 "OptimaWorksModel" "thrown" "I" : Cond) ∈ wsRX12_rule := by decide +kernel
set_option maxHeartbeats 4000000 in
set_option maxRecDepth 100000 in
/-- rule(k, a, b, c) -/
theorem r_X12_rule (l : Launch) (dC : Nat → ClassId) (dI : Nat → Nat → Nat) (a : Nat → Nat) (k : Nat → ClassId) (h0 : Nat) (vi : Nat → Int32) (vj : Nat → Int64) (vF : Nat → Nat → Int32) (vG : Nat → Nat → Int64) (kI : Int32) (aI : Int32) (bI : Int32) (cI : Int32) (hn : Nat) (ru : Nat) (hhn : vi 128 = nI hn) (hhn10 : hn ≤ 10) (hru : vi 129 = nI ru) (hru12 : ru ≤ 12) (hRu : RuO (vF 80) (vF 81) (vF 82) (vF 83) hn ru) (hLm : LmO (vi 145)) (sz : Nat) : Met l yX12_rule wsRX12_rule ({ frames := 2, cells := 0, slots := 0, locals := 45 }) (va_Pc [.ref h0, .int kI, .int aI, .int bI, .int cI] (fun U => U.heap.size = sz ∧ va_P (dC, dI) vwCl (WR a k h0 vi vj vF vG) U.heap ∧ va_K (dC, dI) vwCl (tX12 k) U ∧ va_D (fun _ => True) (WR a k h0 vi vj vF vG))) (va_Qi (fun (r : Int32) (u : (Int32) × (Nat) × (Int32) × (Nat → Int32) × (Nat → Int32) × (Nat → Int32) × (Nat → Int32) × (Nat → Int32)) => (((u.2.1) ≤ 12) ∧ (RuO (u.2.2.2.1) (u.2.2.2.2.1) (u.2.2.2.2.2.1) (u.2.2.2.2.2.2.1) hn (u.2.1)) ∧ (LmO (u.2.2.1)) ∧ ((u.1) = 1) ∧ (¬ (((kI).toInt = 0 ∧ (0 < (aI).toInt ∧ (aI).toInt < ((1 : Int32) <<< ((vi 128) &&& 31)).toInt)) ∨ ((kI).toInt = 1 ∧ (0 ≤ (aI).toInt ∧ (aI).toInt < ((hn : Nat) : Int)) ∧ (0 ≤ (cI).toInt ∧ (cI).toInt < ((hn : Nat) : Int)) ∧ (-15 ≤ (bI).toInt ∧ (bI).toInt ≤ 15)) ∨ ((kI).toInt = 2 ∧ (0 < (aI).toInt ∧ (aI).toInt < ((1 : Int32) <<< ((vi 128) &&& 31)).toInt) ∧ (-200 ≤ (bI).toInt ∧ (bI).toInt ≤ 200) ∧ (-200 ≤ (cI).toInt ∧ (cI).toInt ≤ 200)) ∨ ((kI).toInt = 3 ∧ (0 < (aI).toInt ∧ (aI).toInt < ((1 : Int32) <<< ((vi 128) &&& 31)).toInt) ∧ (-200 ≤ (bI).toInt ∧ (bI).toInt ≤ 200) ∧ (0 ≤ (cI).toInt ∧ (cI).toInt ≤ 15)) ∨ ((kI).toInt = 4 ∧ (0 ≤ (aI).toInt ∧ (aI).toInt < ((hn : Nat) : Int)) ∧ (0 ≤ (bI).toInt ∧ (bI).toInt < ((hn : Nat) : Int)) ∧ (aI).toInt ≠ (bI).toInt))) ∧ ((u.2.1) = ru)) ∨ (((u.2.1) ≤ 12) ∧ (RuO (u.2.2.2.1) (u.2.2.2.2.1) (u.2.2.2.2.2.1) (u.2.2.2.2.2.2.1) hn (u.2.1)) ∧ (LmO (u.2.2.1)) ∧ ((u.1) = 2) ∧ ((((kI).toInt = 0 ∧ (0 < (aI).toInt ∧ (aI).toInt < ((1 : Int32) <<< ((vi 128) &&& 31)).toInt)) ∨ ((kI).toInt = 1 ∧ (0 ≤ (aI).toInt ∧ (aI).toInt < ((hn : Nat) : Int)) ∧ (0 ≤ (cI).toInt ∧ (cI).toInt < ((hn : Nat) : Int)) ∧ (-15 ≤ (bI).toInt ∧ (bI).toInt ≤ 15)) ∨ ((kI).toInt = 2 ∧ (0 < (aI).toInt ∧ (aI).toInt < ((1 : Int32) <<< ((vi 128) &&& 31)).toInt) ∧ (-200 ≤ (bI).toInt ∧ (bI).toInt ≤ 200) ∧ (-200 ≤ (cI).toInt ∧ (cI).toInt ≤ 200)) ∨ ((kI).toInt = 3 ∧ (0 < (aI).toInt ∧ (aI).toInt < ((1 : Int32) <<< ((vi 128) &&& 31)).toInt) ∧ (-200 ≤ (bI).toInt ∧ (bI).toInt ≤ 200) ∧ (0 ≤ (cI).toInt ∧ (cI).toInt ≤ 15)) ∨ ((kI).toInt = 4 ∧ (0 ≤ (aI).toInt ∧ (aI).toInt < ((hn : Nat) : Int)) ∧ (0 ≤ (bI).toInt ∧ (bI).toInt < ((hn : Nat) : Int)) ∧ (aI).toInt ≠ (bI).toInt)) ∧ ru = 12) ∧ ((u.2.1) = ru)) ∨ (((u.2.1) ≤ 12) ∧ (RuO (u.2.2.2.1) (u.2.2.2.2.1) (u.2.2.2.2.2.1) (u.2.2.2.2.2.2.1) hn (u.2.1)) ∧ (LmO (u.2.2.1)) ∧ ((u.1) = 0) ∧ ((((kI).toInt = 0 ∧ (0 < (aI).toInt ∧ (aI).toInt < ((1 : Int32) <<< ((vi 128) &&& 31)).toInt)) ∨ ((kI).toInt = 1 ∧ (0 ≤ (aI).toInt ∧ (aI).toInt < ((hn : Nat) : Int)) ∧ (0 ≤ (cI).toInt ∧ (cI).toInt < ((hn : Nat) : Int)) ∧ (-15 ≤ (bI).toInt ∧ (bI).toInt ≤ 15)) ∨ ((kI).toInt = 2 ∧ (0 < (aI).toInt ∧ (aI).toInt < ((1 : Int32) <<< ((vi 128) &&& 31)).toInt) ∧ (-200 ≤ (bI).toInt ∧ (bI).toInt ≤ 200) ∧ (-200 ≤ (cI).toInt ∧ (cI).toInt ≤ 200)) ∨ ((kI).toInt = 3 ∧ (0 < (aI).toInt ∧ (aI).toInt < ((1 : Int32) <<< ((vi 128) &&& 31)).toInt) ∧ (-200 ≤ (bI).toInt ∧ (bI).toInt ≤ 200) ∧ (0 ≤ (cI).toInt ∧ (cI).toInt ≤ 15)) ∨ ((kI).toInt = 4 ∧ (0 ≤ (aI).toInt ∧ (aI).toInt < ((hn : Nat) : Int)) ∧ (0 ≤ (bI).toInt ∧ (bI).toInt < ((hn : Nat) : Int)) ∧ (aI).toInt ≠ (bI).toInt)) ∧ ru < 12) ∧ ((u.2.1) = ru + 1) ∧ (r.toInt = ((ru : Nat) : Int)))) (fun (u : (Int32) × (Nat) × (Int32) × (Nat → Int32) × (Nat → Int32) × (Nat → Int32) × (Nat → Int32) × (Nat → Int32)) t => va_P (dC, dI) vwCl (WR a k h0 (fT (fT (fT vi 0 (u.1)) 129 (nI (u.2.1))) 145 (u.2.2.1)) vj (fT (fT (fT (fT (fT vF 80 (u.2.2.2.1)) 81 (u.2.2.2.2.1)) 82 (u.2.2.2.2.2.1)) 83 (u.2.2.2.2.2.2.1)) 84 (u.2.2.2.2.2.2.2)) vG) t.heap ∧ va_D (va_A (WR a k h0 vi vj vF vG) sz) (WR a k h0 (fT (fT (fT vi 0 (u.1)) 129 (nI (u.2.1))) 145 (u.2.2.1)) vj (fT (fT (fT (fT (fT vF 80 (u.2.2.2.1)) 81 (u.2.2.2.2.1)) 82 (u.2.2.2.2.2.1)) 83 (u.2.2.2.2.2.2.1)) 84 (u.2.2.2.2.2.2.2)) vG)) (va_A (WR a k h0 vi vj vF vG) sz)) 0 0 (va_A (WR a k h0 vi vj vF vG) sz) := by
  refine Met.ofW (cc := cX12_rule) (maxL := 6) (ret := (some .int)) (by decide) rfl ?_
  intro p e s m args below meth c s₁ B hml hv
  obtain ⟨rfl, hsz, hP, hK, hD0⟩ := hv
  have hx := B.exec
  have hb := B.bytes
  have hr := B.returns
  have hts := atoms_spec (ws := wsRX12_rule) B.pre
  have hown : s.vm.findClass RX12 = some m.cls := findClass_of_methodNamed B.named
  have hlocks := B.notSynchronized
  subst hsz
  have hD := hD0.self (sz := s.heap.size)
  generalize hAe : va_A (WR a k h0 vi vj vF vG) s.heap.size = A at hD ⊢
  have hA : ∀ q : Nat, s.heap.size ≤ q → A q := fun q h => by rw [← hAe]; exact Or.inr h
  have hS : va_S A s.heap s.heap [] := va_S.rf
  have hl := lv_entry ([.ref h0, .int kI, .int aI, .int bI, .int cI]) (n := 6) (Nat.le_of_ble_eq_true rfl)
  rw [lg_entry_eq]
  generalize (lg_sl ([.ref h0, .int kI, .int aI, .int bI, .int cI]) ++ List.replicate (6 - (lg_sl ([.ref h0, .int kI, .int aI, .int bI, .int cI])).length) Slot.unset).toArray = ls at hl ⊢
  have hl : lv_has ls 6 [(0, .ref h0), (1, .int kI), (2, .int aI), (3, .int bI), (4, .int cI)] := hl
  refine lv_aload_n hx hb dX12_rule_0 rfl (lv_at hl 0 rfl) ?_
  refine lv_aload_n hx hb dX12_rule_1 rfl (lv_at hl 0 rfl) ?_
  refine lv_iload_n hx hb dX12_rule_2 rfl (lv_at hl 1 rfl) ?_
  refine lv_iload_n hx hb dX12_rule_3 rfl (lv_at hl 2 rfl) ?_
  refine lv_iload_n hx hb dX12_rule_4 rfl (lv_at hl 3 rfl) ?_
  refine lv_iload hx hb dX12_rule_5 (lv_at hl 4 rfl) ?_
  have hFc := allFree hD hS hA
  refine va_calli (va_runV (As := [.int kI, .int aI, .int bI, .int cI]) (rest := [.ref h0]) ⟨hx, hb, hml, hown, hts⟩ (r_X12_isRule l dC dI a k h0 vi vj vF vG kI aI bI cI hn hhn (by first | with_reducible assumption | decide | omega | rfl | assumption) s.heap.size) (cwV 4 hts gwsRX12_rule_0 rfl rfl rfl hd_yX12_isRule_RX12 (by decide +kernel)) (fz_pre (va_recv hK hP (ci := 12) (q0 := 0) rfl rfl) hP hK hD) rfl rfl hl.1 rfl (lv_room (Nat.le_of_ble_eq_true rfl)) dX12_rule_7 (by decide +kernel)) hS (fun q _ h => hFc q h) hFc (fun r7 u t9_ H locs ht hvm hw9 hB9 hz1 hk1 hS => ?_)
  have hP : va_P (dC, dI) vwCl (WR a k h0 vi vj vF vG) H := fz_P ht hB9.1
  have hD := fz_sd hP (hB9.2.weaken (fun _ q _ h => hFc q.1 h)) rfl
  rcases hw9 with ⟨rfl, f7_0, f7_1⟩ | ⟨rfl, f7_0⟩
  · have f7_1 : (((kI).toInt = 0 ∧ (0 < (aI).toInt ∧ (aI).toInt < ((1 : Int32) <<< ((vi 128) &&& 31)).toInt)) ∨ ((kI).toInt = 1 ∧ (0 ≤ (aI).toInt ∧ (aI).toInt < ((hn : Nat) : Int)) ∧ (0 ≤ (cI).toInt ∧ (cI).toInt < ((hn : Nat) : Int)) ∧ (-15 ≤ (bI).toInt ∧ (bI).toInt ≤ 15)) ∨ ((kI).toInt = 2 ∧ (0 < (aI).toInt ∧ (aI).toInt < ((1 : Int32) <<< ((vi 128) &&& 31)).toInt) ∧ (-200 ≤ (bI).toInt ∧ (bI).toInt ≤ 200) ∧ (-200 ≤ (cI).toInt ∧ (cI).toInt ≤ 200)) ∨ ((kI).toInt = 3 ∧ (0 < (aI).toInt ∧ (aI).toInt < ((1 : Int32) <<< ((vi 128) &&& 31)).toInt) ∧ (-200 ≤ (bI).toInt ∧ (bI).toInt ≤ 200) ∧ (0 ≤ (cI).toInt ∧ (cI).toInt ≤ 15)) ∨ ((kI).toInt = 4 ∧ (0 ≤ (aI).toInt ∧ (aI).toInt < ((hn : Nat) : Int)) ∧ (0 ≤ (bI).toInt ∧ (bI).toInt < ((hn : Nat) : Int)) ∧ (aI).toInt ≠ (bI).toInt)) := f7_1
    refine lv_if_ne (tgt := 17) hx hb dX12_rule_10 (by decide) (fun _ => ?_) (fun c9 => absurd c9 (by decide))
    refine lv_aload_n hx hb dX12_rule_17 rfl (lv_at hl 0 rfl) ?_
    refine va_get (D := (dC, dI)) (ci := 12) (v := .int (vi 129)) (C := RX12) (T := TX12) (N := 163) (fs := fM (vS a vi vj)) hx hb hts iwsRX12_rule_in12 hown hK hP 0 rfl rfl 129 (by decide) (hts _ hm_r_X12_rule_0) (fun _ h9 => h9) rfl dX12_rule_18 ?_
    refine lv_topi (fun y1 hy1 => ?_)
    obtain rfl : (nI ru) = y1 := (hy1.trans (hru)).symm
    refine lv_bipush (v := 12) hx hb dX12_rule_21 (by decide) ?_
    refine lv_icmp_ne (tgt := 30) hx hb dX12_rule_23 (by decide) (fun c_23 => ?_) (fun c_23 => ?_)
    · have t_23 : ((ru : Nat) : Int) ≠ 12 := toI_ne c_23 (nI_toInt (by omega)) (by decide)
      refine lv_iconst (v := 0) hx hb dX12_rule_30 (by decide) ?_
      refine va_put (D := (dC, dI)) (ci := 12) (v := .int 0) (ty := .int) (C := RX12) (T := TX12) (N := 163) (fs := fM (vS a vi vj)) hx hb hts iwsRX12_rule_in12 tyX12 tyX12_ok nmX12 hown hK hP hD hS 0 rfl rfl 0 (by decide) (hts _ hm_r_X12_rule_1) (fun _ h9 => h9) rfl (by decide +kernel) rfl rfl (Nat.le_of_ble_eq_true rfl) dX12_rule_31 (fun H locs hP hD hS => ?_)
      have hP : va_P (dC, dI) vwCl (WR a k h0 (fT vi 0 0) vj vF vG) H := fz_w (WR_i 0 _ rfl) hP
      have hD : va_D A (WR a k h0 (fT vi 0 0) vj vF vG) := fz_wD (WR_i 0 _ rfl) hD
      refine lv_aload_n hx hb dX12_rule_34 rfl (lv_at hl 0 rfl) ?_
      refine va_get (D := (dC, dI)) (ci := 12) (v := .int 0) (C := RX12) (T := TX12) (N := 163) (fs := fM (vS a (fT vi 0 0) vj)) hx hb hts iwsRX12_rule_in12 hown hK hP 0 rfl rfl 0 (by decide) (hts _ hm_r_X12_rule_1) (fun _ h9 => h9) rfl dX12_rule_35 ?_
      refine lv_if_le (tgt := 43) hx hb dX12_rule_38 (by decide) (fun _ => ?_) (fun c9 => absurd (by decide) c9)
      refine lv_aload_n hx hb dX12_rule_43 rfl (lv_at hl 0 rfl) ?_
      refine va_get (D := (dC, dI)) (ci := 12) (v := .ref (a 80)) (C := RX12) (T := TX12) (N := 163) (fs := fM (vS a (fT vi 0 0) vj)) hx hb hts iwsRX12_rule_in12 hown hK hP 0 rfl rfl 132 (by decide) (hts (.fieldLink RX12 263 "OptimaWorksModel" "ruleKind" "[I") (by decide +kernel)) (fun _ h9 => h9) rfl dX12_rule_44 ?_
      refine lv_aload_n hx hb dX12_rule_47 rfl (lv_at hl 0 rfl) ?_
      refine va_get (D := (dC, dI)) (ci := 12) (v := .int (vi 129)) (C := RX12) (T := TX12) (N := 163) (fs := fM (vS a (fT vi 0 0) vj)) hx hb hts iwsRX12_rule_in12 hown hK hP 0 rfl rfl 129 (by decide) (hts _ hm_r_X12_rule_0) (fun _ h9 => h9) rfl dX12_rule_48 ?_
      refine lv_topi (fun y2 hy2 => ?_)
      obtain rfl : (nI ru) = y2 := (hy2.trans (hru)).symm
      refine lv_iload_n hx hb dX12_rule_51 rfl (lv_at hl 1 rfl) ?_
      refine va_iast (cA := k 80) (n := 12) (f := (vF 80)) hx hb hK hP hD hS 81 80 (WR_get 80 (by decide)) (TR_get 80 (by decide)) (vp_in_nI (show ru < 12 by omega) (by omega)) dX12_rule_52 (fun H locs hP hD hS => ?_)
      have hP : va_P (dC, dI) vwCl (WR a k h0 (fT vi 0 0) vj (fT vF 80 (upd (vF 80) ((nI ru)).toNatClampNeg kI)) vG) H := fz_w (WR_F 80 (by decide) _ rfl) hP
      have hD : va_D A (WR a k h0 (fT vi 0 0) vj (fT vF 80 (upd (vF 80) ((nI ru)).toNatClampNeg kI)) vG) := fz_wD (WR_F 80 (by decide) _ rfl) hD
      refine lv_aload_n hx hb dX12_rule_53 rfl (lv_at hl 0 rfl) ?_
      refine va_get (D := (dC, dI)) (ci := 12) (v := .ref (a 81)) (C := RX12) (T := TX12) (N := 163) (fs := fM (vS a (fT vi 0 0) vj)) hx hb hts iwsRX12_rule_in12 hown hK hP 0 rfl rfl 133 (by decide) (hts (.fieldLink RX12 266 "OptimaWorksModel" "ruleA" "[I") (by decide +kernel)) (fun _ h9 => h9) rfl dX12_rule_54 ?_
      refine lv_aload_n hx hb dX12_rule_57 rfl (lv_at hl 0 rfl) ?_
      refine va_get (D := (dC, dI)) (ci := 12) (v := .int (vi 129)) (C := RX12) (T := TX12) (N := 163) (fs := fM (vS a (fT vi 0 0) vj)) hx hb hts iwsRX12_rule_in12 hown hK hP 0 rfl rfl 129 (by decide) (hts _ hm_r_X12_rule_0) (fun _ h9 => h9) rfl dX12_rule_58 ?_
      refine lv_topi (fun y3 hy3 => ?_)
      obtain rfl : (nI ru) = y3 := (hy3.trans (hru)).symm
      refine lv_iload_n hx hb dX12_rule_61 rfl (lv_at hl 2 rfl) ?_
      refine va_iast (cA := k 81) (n := 12) (f := (vF 81)) hx hb hK hP hD hS 82 81 (WR_get 81 (by decide)) (TR_get 81 (by decide)) (vp_in_nI (show ru < 12 by omega) (by omega)) dX12_rule_62 (fun H locs hP hD hS => ?_)
      have hP : va_P (dC, dI) vwCl (WR a k h0 (fT vi 0 0) vj (fT (fT vF 80 (upd (vF 80) ((nI ru)).toNatClampNeg kI)) 81 (upd (vF 81) ((nI ru)).toNatClampNeg aI)) vG) H := fz_w (WR_F 81 (by decide) _ rfl) hP
      have hD : va_D A (WR a k h0 (fT vi 0 0) vj (fT (fT vF 80 (upd (vF 80) ((nI ru)).toNatClampNeg kI)) 81 (upd (vF 81) ((nI ru)).toNatClampNeg aI)) vG) := fz_wD (WR_F 81 (by decide) _ rfl) hD
      refine lv_aload_n hx hb dX12_rule_63 rfl (lv_at hl 0 rfl) ?_
      refine va_get (D := (dC, dI)) (ci := 12) (v := .ref (a 82)) (C := RX12) (T := TX12) (N := 163) (fs := fM (vS a (fT vi 0 0) vj)) hx hb hts iwsRX12_rule_in12 hown hK hP 0 rfl rfl 134 (by decide) (hts (.fieldLink RX12 269 "OptimaWorksModel" "ruleB" "[I") (by decide +kernel)) (fun _ h9 => h9) rfl dX12_rule_64 ?_
      refine lv_aload_n hx hb dX12_rule_67 rfl (lv_at hl 0 rfl) ?_
      refine va_get (D := (dC, dI)) (ci := 12) (v := .int (vi 129)) (C := RX12) (T := TX12) (N := 163) (fs := fM (vS a (fT vi 0 0) vj)) hx hb hts iwsRX12_rule_in12 hown hK hP 0 rfl rfl 129 (by decide) (hts _ hm_r_X12_rule_0) (fun _ h9 => h9) rfl dX12_rule_68 ?_
      refine lv_topi (fun y4 hy4 => ?_)
      obtain rfl : (nI ru) = y4 := (hy4.trans (hru)).symm
      refine lv_iload_n hx hb dX12_rule_71 rfl (lv_at hl 3 rfl) ?_
      refine va_iast (cA := k 82) (n := 12) (f := (vF 82)) hx hb hK hP hD hS 83 82 (WR_get 82 (by decide)) (TR_get 82 (by decide)) (vp_in_nI (show ru < 12 by omega) (by omega)) dX12_rule_72 (fun H locs hP hD hS => ?_)
      have hP : va_P (dC, dI) vwCl (WR a k h0 (fT vi 0 0) vj (fT (fT (fT vF 80 (upd (vF 80) ((nI ru)).toNatClampNeg kI)) 81 (upd (vF 81) ((nI ru)).toNatClampNeg aI)) 82 (upd (vF 82) ((nI ru)).toNatClampNeg bI)) vG) H := fz_w (WR_F 82 (by decide) _ rfl) hP
      have hD : va_D A (WR a k h0 (fT vi 0 0) vj (fT (fT (fT vF 80 (upd (vF 80) ((nI ru)).toNatClampNeg kI)) 81 (upd (vF 81) ((nI ru)).toNatClampNeg aI)) 82 (upd (vF 82) ((nI ru)).toNatClampNeg bI)) vG) := fz_wD (WR_F 82 (by decide) _ rfl) hD
      refine lv_aload_n hx hb dX12_rule_73 rfl (lv_at hl 0 rfl) ?_
      refine va_get (D := (dC, dI)) (ci := 12) (v := .ref (a 83)) (C := RX12) (T := TX12) (N := 163) (fs := fM (vS a (fT vi 0 0) vj)) hx hb hts iwsRX12_rule_in12 hown hK hP 0 rfl rfl 135 (by decide) (hts (.fieldLink RX12 272 "OptimaWorksModel" "ruleC" "[I") (by decide +kernel)) (fun _ h9 => h9) rfl dX12_rule_74 ?_
      refine lv_aload_n hx hb dX12_rule_77 rfl (lv_at hl 0 rfl) ?_
      refine va_get (D := (dC, dI)) (ci := 12) (v := .int (vi 129)) (C := RX12) (T := TX12) (N := 163) (fs := fM (vS a (fT vi 0 0) vj)) hx hb hts iwsRX12_rule_in12 hown hK hP 0 rfl rfl 129 (by decide) (hts _ hm_r_X12_rule_0) (fun _ h9 => h9) rfl dX12_rule_78 ?_
      refine lv_topi (fun y5 hy5 => ?_)
      obtain rfl : (nI ru) = y5 := (hy5.trans (hru)).symm
      refine lv_iload hx hb dX12_rule_81 (lv_at hl 4 rfl) ?_
      refine va_iast (cA := k 83) (n := 12) (f := (vF 83)) hx hb hK hP hD hS 84 83 (WR_get 83 (by decide)) (TR_get 83 (by decide)) (vp_in_nI (show ru < 12 by omega) (by omega)) dX12_rule_83 (fun H locs hP hD hS => ?_)
      have hP : va_P (dC, dI) vwCl (WR a k h0 (fT vi 0 0) vj (fT (fT (fT (fT vF 80 (upd (vF 80) ((nI ru)).toNatClampNeg kI)) 81 (upd (vF 81) ((nI ru)).toNatClampNeg aI)) 82 (upd (vF 82) ((nI ru)).toNatClampNeg bI)) 83 (upd (vF 83) ((nI ru)).toNatClampNeg cI)) vG) H := fz_w (WR_F 83 (by decide) _ rfl) hP
      have hD : va_D A (WR a k h0 (fT vi 0 0) vj (fT (fT (fT (fT vF 80 (upd (vF 80) ((nI ru)).toNatClampNeg kI)) 81 (upd (vF 81) ((nI ru)).toNatClampNeg aI)) 82 (upd (vF 82) ((nI ru)).toNatClampNeg bI)) 83 (upd (vF 83) ((nI ru)).toNatClampNeg cI)) vG) := fz_wD (WR_F 83 (by decide) _ rfl) hD
      refine lv_iconst (v := 0) hx hb dX12_rule_84 (by decide) ?_
      refine lv_istore hx hb dX12_rule_85 hl (by decide) rfl (fun ls (hl : lv_has ls _ ([(5, .int 0), (0, .ref h0), (1, .int kI), (2, .int aI), (3, .int bI), (4, .int cI)])) => ?_)
      have e9 : fT (fT (fT (fT (fT vF 80 (upd (vF 80) ((nI ru)).toNatClampNeg kI)) 81 (upd (vF 81) ((nI ru)).toNatClampNeg aI)) 82 (upd (vF 82) ((nI ru)).toNatClampNeg bI)) 83 (upd (vF 83) ((nI ru)).toNatClampNeg cI)) 84 (vF 84) = fT (fT (fT (fT vF 80 (upd (vF 80) ((nI ru)).toNatClampNeg kI)) 81 (upd (vF 81) ((nI ru)).toNatClampNeg aI)) 82 (upd (vF 82) ((nI ru)).toNatClampNeg bI)) 83 (upd (vF 83) ((nI ru)).toNatClampNeg cI) := id_4 rfl
      have hP := wr_PF e9 hP
      have hD := wr_DF e9 hD
      clear e9
      have hl : lv_has _ _ ([(0, .ref h0), (5, .int (nI 0))]) := lv_sub hl [1, 0] rfl
      refine (fun (loop : ∀ (n9 : Nat) (k5 : Nat) (x1_F84 : Nat → Int32) (H : Heap) (locs : List Loc) (ls : Array Slot), (k5 ≤ 16) →  (16 < k5 + n9) → va_P (dC, dI) vwCl (WR a k h0 (fT vi 0 0) vj (fT (fT (fT (fT (fT vF 80 (upd (vF 80) ((nI ru)).toNatClampNeg kI)) 81 (upd (vF 81) ((nI ru)).toNatClampNeg aI)) 82 (upd (vF 82) ((nI ru)).toNatClampNeg bI)) 83 (upd (vF 83) ((nI ru)).toNatClampNeg cI)) 84 x1_F84) vG) H → va_D A (WR a k h0 (fT vi 0 0) vj (fT (fT (fT (fT (fT vF 80 (upd (vF 80) ((nI ru)).toNatClampNeg kI)) 81 (upd (vF 81) ((nI ru)).toNatClampNeg aI)) 82 (upd (vF 82) ((nI ru)).toNatClampNeg bI)) 83 (upd (vF 83) ((nI ru)).toNatClampNeg cI)) 84 x1_F84) vG) → va_S A s.heap H locs → lv_has ls 6 [(0, .ref h0), (5, .int (nI k5))] → W p l e _ s m _ below meth c H locs 0 0 _ (F0 m 87 ls [])) => loop (17) 0 (vF 84) _ _ _ (by omega) (by omega) hP hD hS hl) ?_
      intro n9
      induction n9 with
      | zero => intro k5 x1_F84 H locs ls hk5 hf9; exact False.elim (by omega)
      | succ n9 ih87 =>
        intro k5 x1_F84 H locs ls hk5 hf87 hP hD hS hl
        refine lv_iload hx hb dX12_rule_87 (lv_at hl 1 rfl) ?_
        refine lv_bipush (v := 16) hx hb dX12_rule_89 (by decide) ?_
        refine lv_icmp_ge (tgt := 122) hx hb dX12_rule_91 (by decide) (fun c_91 => ?_) (fun c_91 => ?_)
        · have t_91 : ((k5 : Nat) : Int) ≥ 16 := toI_ge c_91 (nI_toInt (by omega)) (by decide)
          refine lv_aload_n hx hb dX12_rule_122 rfl (lv_at hl 0 rfl) ?_
          refine lv_dup hx hb dX12_rule_123 rfl ?_
          refine va_get (D := (dC, dI)) (ci := 12) (v := .int (vi 129)) (C := RX12) (T := TX12) (N := 163) (fs := fM (vS a (fT vi 0 0) vj)) hx hb hts iwsRX12_rule_in12 hown hK hP 0 rfl rfl 129 (by decide) (hts _ hm_r_X12_rule_0) (fun _ h9 => h9) rfl dX12_rule_124 ?_
          refine lv_topi (fun y6 hy6 => ?_)
          obtain rfl : (nI ru) = y6 := (hy6.trans (hru)).symm
          refine lv_iconst (v := 1) hx hb dX12_rule_127 (by decide) ?_
          refine lv_iadd hx hb dX12_rule_128 ?_
          refine lv_topi (fun y7 hy7 => ?_)
          obtain rfl : (nI (ru + 1)) = y7 := (hy7.trans (nI_add ru 1)).symm
          refine va_put (D := (dC, dI)) (ci := 12) (v := .int (nI (ru + 1))) (ty := .int) (C := RX12) (T := TX12) (N := 163) (fs := fM (vS a (fT vi 0 0) vj)) hx hb hts iwsRX12_rule_in12 tyX12 tyX12_ok nmX12 hown hK hP hD hS 0 rfl rfl 129 (by decide) (hts _ hm_r_X12_rule_0) (fun _ h9 => h9) rfl (by decide +kernel) rfl rfl (Nat.le_of_ble_eq_true rfl) dX12_rule_129 (fun H locs hP hD hS => ?_)
          have hP : va_P (dC, dI) vwCl (WR a k h0 (fT (fT vi 0 0) 129 (nI (ru + 1))) vj (fT (fT (fT (fT (fT vF 80 (upd (vF 80) ((nI ru)).toNatClampNeg kI)) 81 (upd (vF 81) ((nI ru)).toNatClampNeg aI)) 82 (upd (vF 82) ((nI ru)).toNatClampNeg bI)) 83 (upd (vF 83) ((nI ru)).toNatClampNeg cI)) 84 x1_F84) vG) H := fz_w (WR_i 129 _ rfl) hP
          have hD : va_D A (WR a k h0 (fT (fT vi 0 0) 129 (nI (ru + 1))) vj (fT (fT (fT (fT (fT vF 80 (upd (vF 80) ((nI ru)).toNatClampNeg kI)) 81 (upd (vF 81) ((nI ru)).toNatClampNeg aI)) 82 (upd (vF 82) ((nI ru)).toNatClampNeg bI)) 83 (upd (vF 83) ((nI ru)).toNatClampNeg cI)) 84 x1_F84) vG) := fz_wD (WR_i 129 _ rfl) hD
          refine lv_aload_n hx hb dX12_rule_132 rfl (lv_at hl 0 rfl) ?_
          refine lv_iconst (v := (-1)) hx hb dX12_rule_133 (by decide) ?_
          refine va_put (D := (dC, dI)) (ci := 12) (v := .int (-1)) (ty := .int) (C := RX12) (T := TX12) (N := 163) (fs := fM (vS a (fT (fT vi 0 0) 129 (nI (ru + 1))) vj)) hx hb hts iwsRX12_rule_in12 tyX12 tyX12_ok nmX12 hown hK hP hD hS 0 rfl rfl 145 (by decide) (hts (.fieldLink RX12 300 "OptimaWorksModel" "listedMany" "I") (by decide +kernel)) (fun _ h9 => h9) rfl (by decide +kernel) rfl rfl (Nat.le_of_ble_eq_true rfl) dX12_rule_134 (fun H locs hP hD hS => ?_)
          have hP : va_P (dC, dI) vwCl (WR a k h0 (fT (fT (fT vi 0 0) 129 (nI (ru + 1))) 145 (-1)) vj (fT (fT (fT (fT (fT vF 80 (upd (vF 80) ((nI ru)).toNatClampNeg kI)) 81 (upd (vF 81) ((nI ru)).toNatClampNeg aI)) 82 (upd (vF 82) ((nI ru)).toNatClampNeg bI)) 83 (upd (vF 83) ((nI ru)).toNatClampNeg cI)) 84 x1_F84) vG) H := fz_w (WR_i 145 _ rfl) hP
          have hD : va_D A (WR a k h0 (fT (fT (fT vi 0 0) 129 (nI (ru + 1))) 145 (-1)) vj (fT (fT (fT (fT (fT vF 80 (upd (vF 80) ((nI ru)).toNatClampNeg kI)) 81 (upd (vF 81) ((nI ru)).toNatClampNeg aI)) 82 (upd (vF 82) ((nI ru)).toNatClampNeg bI)) 83 (upd (vF 83) ((nI ru)).toNatClampNeg cI)) 84 x1_F84) vG) := fz_wD (WR_i 145 _ rfl) hD
          refine lv_aload_n hx hb dX12_rule_137 rfl (lv_at hl 0 rfl) ?_
          refine va_get (D := (dC, dI)) (ci := 12) (v := .int (nI (ru + 1))) (C := RX12) (T := TX12) (N := 163) (fs := fM (vS a (fT (fT (fT vi 0 0) 129 (nI (ru + 1))) 145 (-1)) vj)) hx hb hts iwsRX12_rule_in12 hown hK hP 0 rfl rfl 129 (by decide) (hts _ hm_r_X12_rule_0) (fun _ h9 => h9) rfl dX12_rule_138 ?_
          refine lv_iconst (v := 1) hx hb dX12_rule_141 (by decide) ?_
          refine lv_isub hx hb dX12_rule_142 ?_
          refine W.widen (k := 0) (n := 0) (by decide +kernel) (by decide +kernel) ?_
          exact W.iret (v := ((nI (ru + 1)) - 1)) hx hb hr (fun t9_ ht hW => ⟨⟨((nI (ru + 1)) - 1), (0, (ru + 1), (-1), (upd (vF 80) ((nI ru)).toNatClampNeg kI), (upd (vF 81) ((nI ru)).toNatClampNeg aI), (upd (vF 82) ((nI ru)).toNatClampNeg bI), (upd (vF 83) ((nI ru)).toNatClampNeg cI), x1_F84), rfl, by (try dsimp only); exact Or.inr (Or.inr (⟨by omega, hRu.more (fun r hr9 => ⟨by rw [upd_at (by omega), if_neg (by omega)], by rw [upd_at (by omega), if_neg (by omega)], by rw [upd_at (by omega), if_neg (by omega)], by rw [upd_at (by omega), if_neg (by omega)]⟩) (by rw [upd_at (by omega), if_pos rfl, upd_at (by omega), if_pos rfl, upd_at (by omega), if_pos rfl, upd_at (by omega), if_pos rfl]; exact f7_0), Or.inl rfl, rfl, ⟨f7_1, by omega⟩, rfl, (pk_sub_toInt (a := ru + 1) (b := 1) (by omega) (by omega)).trans (by omega)⟩)), by rw [ht]; exact hP, hD⟩, hS.F ht⟩) hS.2.2 dX12_rule_143
        · have t_91 : ¬ ((k5 : Nat) : Int) ≥ 16 := toI_nge c_91 (nI_toInt (by omega)) (by decide)
          refine lv_aload_n hx hb dX12_rule_94 rfl (lv_at hl 0 rfl) ?_
          refine va_get (D := (dC, dI)) (ci := 12) (v := .ref (a 84)) (C := RX12) (T := TX12) (N := 163) (fs := fM (vS a (fT vi 0 0) vj)) hx hb hts iwsRX12_rule_in12 hown hK hP 0 rfl rfl 136 (by decide) (hts (.fieldLink RX12 275 "OptimaWorksModel" "rulePairs" "[I") (by decide +kernel)) (fun _ h9 => h9) rfl dX12_rule_95 ?_
          refine lv_bipush (v := 16) hx hb dX12_rule_98 (by decide) ?_
          refine lv_aload_n hx hb dX12_rule_100 rfl (lv_at hl 0 rfl) ?_
          refine va_get (D := (dC, dI)) (ci := 12) (v := .int (vi 129)) (C := RX12) (T := TX12) (N := 163) (fs := fM (vS a (fT vi 0 0) vj)) hx hb hts iwsRX12_rule_in12 hown hK hP 0 rfl rfl 129 (by decide) (hts _ hm_r_X12_rule_0) (fun _ h9 => h9) rfl dX12_rule_101 ?_
          refine lv_topi (fun y8 hy8 => ?_)
          obtain rfl : (nI ru) = y8 := (hy8.trans (hru)).symm
          refine lv_imul hx hb dX12_rule_104 ?_
          refine lv_topi (fun y9 hy9 => ?_)
          obtain rfl : (nI (16 * ru)) = y9 := (hy9.trans (pk_mul 16 ru)).symm
          refine lv_iload hx hb dX12_rule_105 (lv_at hl 1 rfl) ?_
          refine lv_iadd hx hb dX12_rule_107 ?_
          refine lv_topi (fun y10 hy10 => ?_)
          obtain rfl : (nI ((16 * ru) + k5)) = y10 := (hy10.trans (nI_add (16 * ru) k5)).symm
          refine lv_aload_n hx hb dX12_rule_108 rfl (lv_at hl 0 rfl) ?_
          refine va_get (D := (dC, dI)) (ci := 12) (v := .ref (a 85)) (C := RX12) (T := TX12) (N := 163) (fs := fM (vS a (fT vi 0 0) vj)) hx hb hts iwsRX12_rule_in12 hown hK hP 0 rfl rfl 137 (by decide) (hts (.fieldLink RX12 278 "OptimaWorksModel" "pairs" "[I") (by decide +kernel)) (fun _ h9 => h9) rfl dX12_rule_109 ?_
          refine lv_iload hx hb dX12_rule_112 (lv_at hl 1 rfl) ?_
          refine va_iald (cA := k 85) (n := 16) (f := (vF 85)) hx hb hK hP 86 85 (WR_get 85 (by decide)) (TR_get 85 (by decide)) (vp_in_nI (show k5 < 16 by omega) (by omega)) dX12_rule_114 ?_
          refine lv_topi (fun y11 hy11 => ?_)
          obtain rfl : ((vF 85) k5) = y11 := (hy11.trans (by rw [nI_clamp (by omega)])).symm
          refine va_iast (cA := k 84) (n := 192) (f := x1_F84) hx hb hK hP hD hS 85 84 (WR_get 84 (by decide)) (TR_get 84 (by decide)) (vp_in_nI (show ((16 * ru) + k5) < 192 by omega) (by omega)) dX12_rule_115 (fun H locs hP hD hS => ?_)
          have e9 : fT (fT (fT (fT (fT vF 80 (upd (vF 80) ((nI ru)).toNatClampNeg kI)) 81 (upd (vF 81) ((nI ru)).toNatClampNeg aI)) 82 (upd (vF 82) ((nI ru)).toNatClampNeg bI)) 83 (upd (vF 83) ((nI ru)).toNatClampNeg cI)) 84 (upd x1_F84 ((nI ((16 * ru) + k5))).toNatClampNeg ((vF 85) k5)) = fT (fT (fT (fT (fT (fT vF 80 (upd (vF 80) ((nI ru)).toNatClampNeg kI)) 81 (upd (vF 81) ((nI ru)).toNatClampNeg aI)) 82 (upd (vF 82) ((nI ru)).toNatClampNeg bI)) 83 (upd (vF 83) ((nI ru)).toNatClampNeg cI)) 84 x1_F84) 84 (upd x1_F84 ((nI ((16 * ru) + k5))).toNatClampNeg ((vF 85) k5)) := (fT_sm _ _ _ _).symm
          have hP := wr_PF e9 (fz_w (WR_F 84 (by decide) _ rfl) hP)
          have hD := wr_DF e9 (fz_wD (WR_F 84 (by decide) _ rfl) hD)
          clear e9
          refine lv_iinc (v := (nI (k5 + 1))) hx hb dX12_rule_116 hl (k := 1) rfl (nI_add k5 1) (by decide) rfl (fun ls (hl : lv_has ls _ ([(5, .int (nI (k5 + 1))), (0, .ref h0)])) => ?_)
          refine lv_goto (tgt := 87) hx hb dX12_rule_119 (by decide) ?_
          have hl : lv_has _ _ ([(0, .ref h0), (5, .int (nI (k5 + 1)))]) := lv_sub hl [1, 0] rfl
          exact ih87 (k5 + 1) (upd x1_F84 ((nI ((16 * ru) + k5))).toNatClampNeg ((vF 85) k5)) _ _ _ (by omega) (by omega) hP hD hS hl
    · have t_23 : ((ru : Nat) : Int) = 12 := toI_nne c_23 (nI_toInt (by omega)) (by decide)
      refine lv_iconst (v := 2) hx hb dX12_rule_26 (by decide) ?_
      refine lv_goto (tgt := 31) hx hb dX12_rule_27 (by decide) ?_
      refine va_put (D := (dC, dI)) (ci := 12) (v := .int 2) (ty := .int) (C := RX12) (T := TX12) (N := 163) (fs := fM (vS a vi vj)) hx hb hts iwsRX12_rule_in12 tyX12 tyX12_ok nmX12 hown hK hP hD hS 0 rfl rfl 0 (by decide) (hts _ hm_r_X12_rule_1) (fun _ h9 => h9) rfl (by decide +kernel) rfl rfl (Nat.le_of_ble_eq_true rfl) dX12_rule_31 (fun H locs hP hD hS => ?_)
      have hP : va_P (dC, dI) vwCl (WR a k h0 (fT vi 0 2) vj vF vG) H := fz_w (WR_i 0 _ rfl) hP
      have hD : va_D A (WR a k h0 (fT vi 0 2) vj vF vG) := fz_wD (WR_i 0 _ rfl) hD
      refine lv_aload_n hx hb dX12_rule_34 rfl (lv_at hl 0 rfl) ?_
      refine va_get (D := (dC, dI)) (ci := 12) (v := .int 2) (C := RX12) (T := TX12) (N := 163) (fs := fM (vS a (fT vi 0 2) vj)) hx hb hts iwsRX12_rule_in12 hown hK hP 0 rfl rfl 0 (by decide) (hts _ hm_r_X12_rule_1) (fun _ h9 => h9) rfl dX12_rule_35 ?_
      refine lv_if_le (tgt := 43) hx hb dX12_rule_38 (by decide) (fun c9 => absurd c9 (by decide)) (fun _ => ?_)
      refine lv_iconst (v := 0) hx hb dX12_rule_41 (by decide) ?_
      refine W.widen (k := 0) (n := 0) (by decide +kernel) (by decide +kernel) ?_
      have e9 : fT (fT (fT vi 0 2) 129 (nI ru)) 145 (vi 145) = fT vi 0 2 := Eq.trans (mv_1 rfl) (Eq.trans (congrArg (fT _ 129) (show nI ru = vi 129 from (by first | with_reducible rfl | with_reducible assumption | (symm; with_reducible assumption) | rfl | assumption | (symm; assumption) | (subst_vars; rfl)))) (Eq.trans (id_2 rfl) (id_1 rfl)))
      have hP := wr_Pi e9 hP
      have hD := wr_Di e9 hD
      clear e9
      have e9 : fT (fT (fT (fT (fT vF 80 (vF 80)) 81 (vF 81)) 82 (vF 82)) 83 (vF 83)) 84 (vF 84) = vF := Eq.trans (mv_4 rfl) (Eq.trans (id_4 rfl) (Eq.trans (mv_3 rfl) (Eq.trans (id_3 rfl) (Eq.trans (mv_2 rfl) (Eq.trans (id_2 rfl) (Eq.trans (mv_1 rfl) (Eq.trans (id_1 rfl) (id_0 rfl))))))))
      have hP := wr_PF e9 hP
      have hD := wr_DF e9 hD
      clear e9
      exact W.iret (v := 0) hx hb hr (fun t9_ ht hW => ⟨⟨0, (2, ru, (vi 145), (vF 80), (vF 81), (vF 82), (vF 83), (vF 84)), rfl, by (try dsimp only); exact Or.inr (Or.inl (⟨by omega, hRu, hLm, rfl, ⟨f7_1, by omega⟩, rfl⟩)), by rw [ht]; exact hP, hD⟩, hS.F ht⟩) hS.2.2 dX12_rule_42
  · have f7_0 : ¬ (((kI).toInt = 0 ∧ (0 < (aI).toInt ∧ (aI).toInt < ((1 : Int32) <<< ((vi 128) &&& 31)).toInt)) ∨ ((kI).toInt = 1 ∧ (0 ≤ (aI).toInt ∧ (aI).toInt < ((hn : Nat) : Int)) ∧ (0 ≤ (cI).toInt ∧ (cI).toInt < ((hn : Nat) : Int)) ∧ (-15 ≤ (bI).toInt ∧ (bI).toInt ≤ 15)) ∨ ((kI).toInt = 2 ∧ (0 < (aI).toInt ∧ (aI).toInt < ((1 : Int32) <<< ((vi 128) &&& 31)).toInt) ∧ (-200 ≤ (bI).toInt ∧ (bI).toInt ≤ 200) ∧ (-200 ≤ (cI).toInt ∧ (cI).toInt ≤ 200)) ∨ ((kI).toInt = 3 ∧ (0 < (aI).toInt ∧ (aI).toInt < ((1 : Int32) <<< ((vi 128) &&& 31)).toInt) ∧ (-200 ≤ (bI).toInt ∧ (bI).toInt ≤ 200) ∧ (0 ≤ (cI).toInt ∧ (cI).toInt ≤ 15)) ∨ ((kI).toInt = 4 ∧ (0 ≤ (aI).toInt ∧ (aI).toInt < ((hn : Nat) : Int)) ∧ (0 ≤ (bI).toInt ∧ (bI).toInt < ((hn : Nat) : Int)) ∧ (aI).toInt ≠ (bI).toInt)) := f7_0
    refine lv_if_ne (tgt := 17) hx hb dX12_rule_10 (by decide) (fun c9 => absurd c9 (by decide)) (fun _ => ?_)
    refine lv_iconst (v := 1) hx hb dX12_rule_13 (by decide) ?_
    refine lv_goto (tgt := 31) hx hb dX12_rule_14 (by decide) ?_
    refine va_put (D := (dC, dI)) (ci := 12) (v := .int 1) (ty := .int) (C := RX12) (T := TX12) (N := 163) (fs := fM (vS a vi vj)) hx hb hts iwsRX12_rule_in12 tyX12 tyX12_ok nmX12 hown hK hP hD hS 0 rfl rfl 0 (by decide) (hts _ hm_r_X12_rule_1) (fun _ h9 => h9) rfl (by decide +kernel) rfl rfl (Nat.le_of_ble_eq_true rfl) dX12_rule_31 (fun H locs hP hD hS => ?_)
    have hP : va_P (dC, dI) vwCl (WR a k h0 (fT vi 0 1) vj vF vG) H := fz_w (WR_i 0 _ rfl) hP
    have hD : va_D A (WR a k h0 (fT vi 0 1) vj vF vG) := fz_wD (WR_i 0 _ rfl) hD
    refine lv_aload_n hx hb dX12_rule_34 rfl (lv_at hl 0 rfl) ?_
    refine va_get (D := (dC, dI)) (ci := 12) (v := .int 1) (C := RX12) (T := TX12) (N := 163) (fs := fM (vS a (fT vi 0 1) vj)) hx hb hts iwsRX12_rule_in12 hown hK hP 0 rfl rfl 0 (by decide) (hts _ hm_r_X12_rule_1) (fun _ h9 => h9) rfl dX12_rule_35 ?_
    refine lv_if_le (tgt := 43) hx hb dX12_rule_38 (by decide) (fun c9 => absurd c9 (by decide)) (fun _ => ?_)
    refine lv_iconst (v := 0) hx hb dX12_rule_41 (by decide) ?_
    refine W.widen (k := 0) (n := 0) (by decide +kernel) (by decide +kernel) ?_
    have e9 : fT (fT (fT vi 0 1) 129 (nI ru)) 145 (vi 145) = fT vi 0 1 := Eq.trans (mv_1 rfl) (Eq.trans (congrArg (fT _ 129) (show nI ru = vi 129 from (by first | with_reducible rfl | with_reducible assumption | (symm; with_reducible assumption) | rfl | assumption | (symm; assumption) | (subst_vars; rfl)))) (Eq.trans (id_2 rfl) (id_1 rfl)))
    have hP := wr_Pi e9 hP
    have hD := wr_Di e9 hD
    clear e9
    have e9 : fT (fT (fT (fT (fT vF 80 (vF 80)) 81 (vF 81)) 82 (vF 82)) 83 (vF 83)) 84 (vF 84) = vF := Eq.trans (mv_4 rfl) (Eq.trans (id_4 rfl) (Eq.trans (mv_3 rfl) (Eq.trans (id_3 rfl) (Eq.trans (mv_2 rfl) (Eq.trans (id_2 rfl) (Eq.trans (mv_1 rfl) (Eq.trans (id_1 rfl) (id_0 rfl))))))))
    have hP := wr_PF e9 hP
    have hD := wr_DF e9 hD
    clear e9
    exact W.iret (v := 0) hx hb hr (fun t9_ ht hW => ⟨⟨0, (1, ru, (vi 145), (vF 80), (vF 81), (vF 82), (vF 83), (vF 84)), rfl, by (try dsimp only); exact Or.inl (⟨by omega, hRu, hLm, rfl, f7_0, rfl⟩), by rw [ht]; exact hP, hD⟩, hS.F ht⟩) hS.2.2 dX12_rule_42
theorem dX12_pair_0 : decode cX12_pair 0 = .ok (.aload_n 0, 1) := dk_42 (by decide +kernel)
theorem dX12_pair_1 : decode cX12_pair 1 = .ok (.iconst 0, 1) := dk_3 (by decide +kernel)
theorem dX12_pair_2 : decode cX12_pair 2 = .ok (.putfield 348, 3) := dk_181 (by decide +kernel)
theorem dX12_pair_5 : decode cX12_pair 5 = .ok (.iload_n 1, 1) := dk_27 (by decide +kernel)
theorem dX12_pair_6 : decode cX12_pair 6 = .ok (.ifCond .lt 20, 3) := dk_155 (by decide +kernel)
theorem dX12_pair_9 : decode cX12_pair 9 = .ok (.iload_n 1, 1) := dk_27 (by decide +kernel)
theorem dX12_pair_10 : decode cX12_pair 10 = .ok (.bipush 15, 2) := dk_16 (by decide +kernel)
theorem dX12_pair_12 : decode cX12_pair 12 = .ok (.if_icmp .gt 14, 3) := dk_163 (by decide +kernel)
theorem dX12_pair_15 : decode cX12_pair 15 = .ok (.iload_n 2, 1) := dk_28 (by decide +kernel)
theorem dX12_pair_16 : decode cX12_pair 16 = .ok (.ifCond .lt 10, 3) := dk_155 (by decide +kernel)
theorem dX12_pair_19 : decode cX12_pair 19 = .ok (.iload_n 2, 1) := dk_28 (by decide +kernel)
theorem dX12_pair_20 : decode cX12_pair 20 = .ok (.ldc_w 993, 3) := dk_19 (by decide +kernel)
theorem dX12_pair_23 : decode cX12_pair 23 = .ok (.if_icmp .le 5, 3) := dk_164 (by decide +kernel)
theorem dX12_pair_26 : decode cX12_pair 26 = .ok (.iconst 0, 1) := dk_3 (by decide +kernel)
theorem dX12_pair_27 : decode cX12_pair 27 = .ok (.ireturn, 1) := dk_172 (by decide +kernel)
theorem dX12_pair_28 : decode cX12_pair 28 = .ok (.aload_n 0, 1) := dk_42 (by decide +kernel)
theorem dX12_pair_29 : decode cX12_pair 29 = .ok (.getfield 278, 3) := dk_180 (by decide +kernel)
theorem dX12_pair_32 : decode cX12_pair 32 = .ok (.iload_n 1, 1) := dk_27 (by decide +kernel)
theorem dX12_pair_33 : decode cX12_pair 33 = .ok (.iload_n 2, 1) := dk_28 (by decide +kernel)
theorem dX12_pair_34 : decode cX12_pair 34 = .ok (.iastore, 1) := dk_79 (by decide +kernel)
theorem dX12_pair_35 : decode cX12_pair 35 = .ok (.iconst 1, 1) := dk_4 (by decide +kernel)
theorem dX12_pair_36 : decode cX12_pair 36 = .ok (.ireturn, 1) := dk_172 (by decide +kernel)
def wsRX12_pair : List Cond := .code yX12_pair cX12_pair 3 (some .boolean) :: ([.fieldLink RX12 348 "OptimaWorksModel" "thrown" "I", .constant RX12 993 65535, .fieldLink RX12 278 "OptimaWorksModel" "pairs" "[I"] ++ wsX120)
theorem iwsRX12_pair_in12 : ∀ w ∈ wsX120, w ∈ wsRX12_pair := fun _ h => List.mem_cons_of_mem _ (List.mem_append_right _ h)
theorem gdwsRX12_pair : wsRX12_pair.all goodWord = true := gdC rfl (gdA (by decide +kernel : ([.fieldLink RX12 348 "OptimaWorksModel" "thrown" "I", .constant RX12 993 65535, .fieldLink RX12 278 "OptimaWorksModel" "pairs" "[I"] : List Cond).all goodWord = true) gdwsX120)
set_option maxHeartbeats 4000000 in
set_option maxRecDepth 100000 in
/-- pair(v, bits) -/
theorem r_X12_pair (l : Launch) (dC : Nat → ClassId) (dI : Nat → Nat → Nat) (a : Nat → Nat) (k : Nat → ClassId) (h0 : Nat) (vi : Nat → Int32) (vj : Nat → Int64) (vF : Nat → Nat → Int32) (vG : Nat → Nat → Int64) (vI : Int32) (bI : Int32) (sz : Nat) : Met l yX12_pair wsRX12_pair ({ frames := 0, cells := 0, slots := 0, locals := 0 }) (va_Pc [.ref h0, .int vI, .int bI] (fun U => U.heap.size = sz ∧ va_P (dC, dI) vwCl (WR a k h0 vi vj vF vG) U.heap ∧ va_K (dC, dI) vwCl (tX12 k) U ∧ va_D (fun _ => True) (WR a k h0 vi vj vF vG))) (va_Qi (fun (r : Int32) (u : Nat → Int32) => (r = 0 ∧ (¬ (0 ≤ (vI).toInt ∧ (vI).toInt ≤ 15 ∧ 0 ≤ (bI).toInt ∧ (bI).toInt ≤ 65535))) ∨ (r = 1 ∧ ((0 ≤ (vI).toInt ∧ (vI).toInt ≤ 15 ∧ 0 ≤ (bI).toInt ∧ (bI).toInt ≤ 65535)))) (fun (u : Nat → Int32) t => va_P (dC, dI) vwCl (WR a k h0 (fT vi 0 0) vj (fT vF 85 u) vG) t.heap ∧ va_D (va_A (WR a k h0 vi vj vF vG) sz) (WR a k h0 (fT vi 0 0) vj (fT vF 85 u) vG)) (va_A (WR a k h0 vi vj vF vG) sz)) 0 0 (va_A (WR a k h0 vi vj vF vG) sz) := by
  refine Met.ofW (cc := cX12_pair) (maxL := 3) (ret := (some .boolean)) (by decide) rfl ?_
  intro p e s m args below meth c s₁ B hml hv
  obtain ⟨rfl, hsz, hP, hK, hD0⟩ := hv
  have hx := B.exec
  have hb := B.bytes
  have hr := B.returns
  have hts := atoms_spec (ws := wsRX12_pair) B.pre
  have hown : s.vm.findClass RX12 = some m.cls := findClass_of_methodNamed B.named
  have hlocks := B.notSynchronized
  subst hsz
  have hD := hD0.self (sz := s.heap.size)
  generalize hAe : va_A (WR a k h0 vi vj vF vG) s.heap.size = A at hD ⊢
  have hA : ∀ q : Nat, s.heap.size ≤ q → A q := fun q h => by rw [← hAe]; exact Or.inr h
  have hS : va_S A s.heap s.heap [] := va_S.rf
  have hl := lv_entry ([.ref h0, .int vI, .int bI]) (n := 3) (Nat.le_of_ble_eq_true rfl)
  rw [lg_entry_eq]
  generalize (lg_sl ([.ref h0, .int vI, .int bI]) ++ List.replicate (3 - (lg_sl ([.ref h0, .int vI, .int bI])).length) Slot.unset).toArray = ls at hl ⊢
  have hl : lv_has ls 3 [(0, .ref h0), (1, .int vI), (2, .int bI)] := hl
  refine lv_aload_n hx hb dX12_pair_0 rfl (lv_at hl 0 rfl) ?_
  refine lv_iconst (v := 0) hx hb dX12_pair_1 (by decide) ?_
  refine va_put (D := (dC, dI)) (ci := 12) (v := .int 0) (ty := .int) (C := RX12) (T := TX12) (N := 163) (fs := fM (vS a vi vj)) hx hb hts iwsRX12_pair_in12 tyX12 tyX12_ok nmX12 hown hK hP hD hS 0 rfl rfl 0 (by decide) (hts (.fieldLink RX12 348 "OptimaWorksModel" "thrown" "I") (by decide +kernel)) (fun _ h9 => h9) rfl (by decide +kernel) rfl rfl (Nat.le_of_ble_eq_true rfl) dX12_pair_2 (fun H locs hP hD hS => ?_)
  have hP : va_P (dC, dI) vwCl (WR a k h0 (fT vi 0 0) vj vF vG) H := fz_w (WR_i 0 _ rfl) hP
  have hD : va_D A (WR a k h0 (fT vi 0 0) vj vF vG) := fz_wD (WR_i 0 _ rfl) hD
  refine lv_iload_n hx hb dX12_pair_5 rfl (lv_at hl 1 rfl) ?_
  refine lv_if_lt (tgt := 26) hx hb dX12_pair_6 (by decide) (fun c_6 => ?_) (fun c_6 => ?_)
  · have t_6 : (vI).toInt < 0 := toI_lt c_6 rfl (by decide)
    refine lv_iconst (v := 0) hx hb dX12_pair_26 (by decide) ?_
    refine W.widen (k := 0) (n := 0) (by decide +kernel) (by decide +kernel) ?_
    have e9 : fT vF 85 (vF 85) = vF := fT_id _ _ (rfl)
    have hP := wr_PF e9 hP
    have hD := wr_DF e9 hD
    clear e9
    exact W.zret (v := 0) hx hb hr rfl (fun t9_ ht hW => ⟨⟨0, (vF 85), rfl, by (try dsimp only); exact Or.inl ⟨rfl, by omega⟩, by rw [ht]; exact hP, hD⟩, hS.F ht⟩) hS.2.2 dX12_pair_27
  · have t_6 : ¬ (vI).toInt < 0 := toI_nlt c_6 rfl (by decide)
    refine lv_iload_n hx hb dX12_pair_9 rfl (lv_at hl 1 rfl) ?_
    refine lv_bipush (v := 15) hx hb dX12_pair_10 (by decide) ?_
    refine lv_icmp_gt (tgt := 26) hx hb dX12_pair_12 (by decide) (fun c_12 => ?_) (fun c_12 => ?_)
    · have t_12 : (vI).toInt > 15 := toI_gt c_12 rfl (by decide)
      refine lv_iconst (v := 0) hx hb dX12_pair_26 (by decide) ?_
      refine W.widen (k := 0) (n := 0) (by decide +kernel) (by decide +kernel) ?_
      have e9 : fT vF 85 (vF 85) = vF := fT_id _ _ (rfl)
      have hP := wr_PF e9 hP
      have hD := wr_DF e9 hD
      clear e9
      exact W.zret (v := 0) hx hb hr rfl (fun t9_ ht hW => ⟨⟨0, (vF 85), rfl, by (try dsimp only); exact Or.inl ⟨rfl, by omega⟩, by rw [ht]; exact hP, hD⟩, hS.F ht⟩) hS.2.2 dX12_pair_27
    · have t_12 : ¬ (vI).toInt > 15 := toI_ngt c_12 rfl (by decide)
      refine lv_iload_n hx hb dX12_pair_15 rfl (lv_at hl 2 rfl) ?_
      refine lv_if_lt (tgt := 26) hx hb dX12_pair_16 (by decide) (fun c_16 => ?_) (fun c_16 => ?_)
      · have t_16 : (bI).toInt < 0 := toI_lt c_16 rfl (by decide)
        refine lv_iconst (v := 0) hx hb dX12_pair_26 (by decide) ?_
        refine W.widen (k := 0) (n := 0) (by decide +kernel) (by decide +kernel) ?_
        have e9 : fT vF 85 (vF 85) = vF := fT_id _ _ (rfl)
        have hP := wr_PF e9 hP
        have hD := wr_DF e9 hD
        clear e9
        exact W.zret (v := 0) hx hb hr rfl (fun t9_ ht hW => ⟨⟨0, (vF 85), rfl, by (try dsimp only); exact Or.inl ⟨rfl, by omega⟩, by rw [ht]; exact hP, hD⟩, hS.F ht⟩) hS.2.2 dX12_pair_27
      · have t_16 : ¬ (bI).toInt < 0 := toI_nlt c_16 rfl (by decide)
        refine lv_iload_n hx hb dX12_pair_19 rfl (lv_at hl 2 rfl) ?_
        refine lv_ldcw (v := 65535) hx hb hown (hts (.constant RX12 993 65535) (by decide +kernel)) dX12_pair_20 ?_
        refine lv_icmp_le (tgt := 28) hx hb dX12_pair_23 (by decide) (fun c_23 => ?_) (fun c_23 => ?_)
        · have t_23 : (bI).toInt ≤ 65535 := toI_le c_23 rfl (by decide)
          refine lv_aload_n hx hb dX12_pair_28 rfl (lv_at hl 0 rfl) ?_
          refine va_get (D := (dC, dI)) (ci := 12) (v := .ref (a 85)) (C := RX12) (T := TX12) (N := 163) (fs := fM (vS a (fT vi 0 0) vj)) hx hb hts iwsRX12_pair_in12 hown hK hP 0 rfl rfl 137 (by decide) (hts (.fieldLink RX12 278 "OptimaWorksModel" "pairs" "[I") (by decide +kernel)) (fun _ h9 => h9) rfl dX12_pair_29 ?_
          refine lv_iload_n hx hb dX12_pair_32 rfl (lv_at hl 1 rfl) ?_
          refine lv_iload_n hx hb dX12_pair_33 rfl (lv_at hl 2 rfl) ?_
          refine va_iast (cA := k 85) (n := 16) (f := (vF 85)) hx hb hK hP hD hS 86 85 (WR_get 85 (by decide)) (TR_get 85 (by decide)) (vp_in_iff.mpr (by omega)) dX12_pair_34 (fun H locs hP hD hS => ?_)
          have hP : va_P (dC, dI) vwCl (WR a k h0 (fT vi 0 0) vj (fT vF 85 (upd (vF 85) (vI).toNatClampNeg bI)) vG) H := fz_w (WR_F 85 (by decide) _ rfl) hP
          have hD : va_D A (WR a k h0 (fT vi 0 0) vj (fT vF 85 (upd (vF 85) (vI).toNatClampNeg bI)) vG) := fz_wD (WR_F 85 (by decide) _ rfl) hD
          refine lv_iconst (v := 1) hx hb dX12_pair_35 (by decide) ?_
          refine W.widen (k := 0) (n := 0) (by decide +kernel) (by decide +kernel) ?_
          exact W.zret (v := 1) hx hb hr rfl (fun t9_ ht hW => ⟨⟨1, (upd (vF 85) (vI).toNatClampNeg bI), rfl, by (try dsimp only); exact Or.inr ⟨rfl, by omega⟩, by rw [ht]; exact hP, hD⟩, hS.F ht⟩) hS.2.2 dX12_pair_36
        · have t_23 : ¬ (bI).toInt ≤ 65535 := toI_nle c_23 rfl (by decide)
          refine lv_iconst (v := 0) hx hb dX12_pair_26 (by decide) ?_
          refine W.widen (k := 0) (n := 0) (by decide +kernel) (by decide +kernel) ?_
          have e9 : fT vF 85 (vF 85) = vF := fT_id _ _ (rfl)
          have hP := wr_PF e9 hP
          have hD := wr_DF e9 hD
          clear e9
          exact W.zret (v := 0) hx hb hr rfl (fun t9_ ht hW => ⟨⟨0, (vF 85), rfl, by (try dsimp only); exact Or.inl ⟨rfl, by omega⟩, by rw [ht]; exact hP, hD⟩, hS.F ht⟩) hS.2.2 dX12_pair_27
theorem dX12_clear_0 : decode cX12_clear 0 = .ok (.aload_n 0, 1) := dk_42 (by decide +kernel)
theorem dX12_clear_1 : decode cX12_clear 1 = .ok (.iconst 0, 1) := dk_3 (by decide +kernel)
theorem dX12_clear_2 : decode cX12_clear 2 = .ok (.putfield 348, 3) := dk_181 (by decide +kernel)
theorem dX12_clear_5 : decode cX12_clear 5 = .ok (.aload_n 0, 1) := dk_42 (by decide +kernel)
theorem dX12_clear_6 : decode cX12_clear 6 = .ok (.iconst 0, 1) := dk_3 (by decide +kernel)
theorem dX12_clear_7 : decode cX12_clear 7 = .ok (.putfield 978, 3) := dk_181 (by decide +kernel)
theorem dX12_clear_10 : decode cX12_clear 10 = .ok (.aload_n 0, 1) := dk_42 (by decide +kernel)
theorem dX12_clear_11 : decode cX12_clear 11 = .ok (.iconst 0, 1) := dk_3 (by decide +kernel)
theorem dX12_clear_12 : decode cX12_clear 12 = .ok (.putfield 990, 3) := dk_181 (by decide +kernel)
theorem dX12_clear_15 : decode cX12_clear 15 = .ok (.aload_n 0, 1) := dk_42 (by decide +kernel)
theorem dX12_clear_16 : decode cX12_clear 16 = .ok (.iconst (-1), 1) := dk_2 (by decide +kernel)
theorem dX12_clear_17 : decode cX12_clear 17 = .ok (.putfield 300, 3) := dk_181 (by decide +kernel)
theorem dX12_clear_20 : decode cX12_clear 20 = .ok (.return_, 1) := dk_177 (by decide +kernel)
def wsRX12_clear : List Cond := .code yX12_clear cX12_clear 1 none :: ([.fieldLink RX12 348 "OptimaWorksModel" "thrown" "I", .fieldLink RX12 978 "OptimaWorksModel" "holders" "I", .fieldLink RX12 990 "OptimaWorksModel" "rules" "I", .fieldLink RX12 300 "OptimaWorksModel" "listedMany" "I"] ++ wsX120)
theorem iwsRX12_clear_in12 : ∀ w ∈ wsX120, w ∈ wsRX12_clear := fun _ h => List.mem_cons_of_mem _ (List.mem_append_right _ h)
theorem gdwsRX12_clear : wsRX12_clear.all goodWord = true := gdC rfl (gdA (by decide +kernel : ([.fieldLink RX12 348 "OptimaWorksModel" "thrown" "I", .fieldLink RX12 978 "OptimaWorksModel" "holders" "I", .fieldLink RX12 990 "OptimaWorksModel" "rules" "I", .fieldLink RX12 300 "OptimaWorksModel" "listedMany" "I"] : List Cond).all goodWord = true) gdwsX120)
set_option maxHeartbeats 4000000 in
set_option maxRecDepth 100000 in
/-- clear() -/
theorem r_X12_clear (l : Launch) (dC : Nat → ClassId) (dI : Nat → Nat → Nat) (a : Nat → Nat) (k : Nat → ClassId) (h0 : Nat) (vi : Nat → Int32) (vj : Nat → Int64) (vF : Nat → Nat → Int32) (vG : Nat → Nat → Int64) (sz : Nat) : Met l yX12_clear wsRX12_clear ({ frames := 0, cells := 0, slots := 0, locals := 0 }) (va_Pc [.ref h0] (fun U => U.heap.size = sz ∧ va_P (dC, dI) vwCl (WR a k h0 vi vj vF vG) U.heap ∧ va_K (dC, dI) vwCl (tX12 k) U ∧ va_D (fun _ => True) (WR a k h0 vi vj vF vG))) (va_Qv (fun (u : Unit) => True) (fun (u : Unit) t => va_P (dC, dI) vwCl (WR a k h0 (fT (fT (fT (fT vi 0 0) 128 0) 129 0) 145 (-1)) vj vF vG) t.heap ∧ va_D (va_A (WR a k h0 vi vj vF vG) sz) (WR a k h0 (fT (fT (fT (fT vi 0 0) 128 0) 129 0) 145 (-1)) vj vF vG)) (va_A (WR a k h0 vi vj vF vG) sz)) 0 0 (va_A (WR a k h0 vi vj vF vG) sz) := by
  refine Met.ofW (cc := cX12_clear) (maxL := 1) (ret := none) (by decide) rfl ?_
  intro p e s m args below meth c s₁ B hml hv
  obtain ⟨rfl, hsz, hP, hK, hD0⟩ := hv
  have hx := B.exec
  have hb := B.bytes
  have hr := B.returns
  have hts := atoms_spec (ws := wsRX12_clear) B.pre
  have hown : s.vm.findClass RX12 = some m.cls := findClass_of_methodNamed B.named
  have hlocks := B.notSynchronized
  subst hsz
  have hD := hD0.self (sz := s.heap.size)
  generalize hAe : va_A (WR a k h0 vi vj vF vG) s.heap.size = A at hD ⊢
  have hA : ∀ q : Nat, s.heap.size ≤ q → A q := fun q h => by rw [← hAe]; exact Or.inr h
  have hS : va_S A s.heap s.heap [] := va_S.rf
  have hl := lv_entry ([.ref h0]) (n := 1) (Nat.le_of_ble_eq_true rfl)
  rw [lg_entry_eq]
  generalize (lg_sl ([.ref h0]) ++ List.replicate (1 - (lg_sl ([.ref h0])).length) Slot.unset).toArray = ls at hl ⊢
  have hl : lv_has ls 1 [(0, .ref h0)] := hl
  refine lv_aload_n hx hb dX12_clear_0 rfl (lv_at hl 0 rfl) ?_
  refine lv_iconst (v := 0) hx hb dX12_clear_1 (by decide) ?_
  refine va_put (D := (dC, dI)) (ci := 12) (v := .int 0) (ty := .int) (C := RX12) (T := TX12) (N := 163) (fs := fM (vS a vi vj)) hx hb hts iwsRX12_clear_in12 tyX12 tyX12_ok nmX12 hown hK hP hD hS 0 rfl rfl 0 (by decide) (hts (.fieldLink RX12 348 "OptimaWorksModel" "thrown" "I") (by decide +kernel)) (fun _ h9 => h9) rfl (by decide +kernel) rfl rfl (Nat.le_of_ble_eq_true rfl) dX12_clear_2 (fun H locs hP hD hS => ?_)
  have hP : va_P (dC, dI) vwCl (WR a k h0 (fT vi 0 0) vj vF vG) H := fz_w (WR_i 0 _ rfl) hP
  have hD : va_D A (WR a k h0 (fT vi 0 0) vj vF vG) := fz_wD (WR_i 0 _ rfl) hD
  refine lv_aload_n hx hb dX12_clear_5 rfl (lv_at hl 0 rfl) ?_
  refine lv_iconst (v := 0) hx hb dX12_clear_6 (by decide) ?_
  refine va_put (D := (dC, dI)) (ci := 12) (v := .int 0) (ty := .int) (C := RX12) (T := TX12) (N := 163) (fs := fM (vS a (fT vi 0 0) vj)) hx hb hts iwsRX12_clear_in12 tyX12 tyX12_ok nmX12 hown hK hP hD hS 0 rfl rfl 128 (by decide) (hts (.fieldLink RX12 978 "OptimaWorksModel" "holders" "I") (by decide +kernel)) (fun _ h9 => h9) rfl (by decide +kernel) rfl rfl (Nat.le_of_ble_eq_true rfl) dX12_clear_7 (fun H locs hP hD hS => ?_)
  have hP : va_P (dC, dI) vwCl (WR a k h0 (fT (fT vi 0 0) 128 0) vj vF vG) H := fz_w (WR_i 128 _ rfl) hP
  have hD : va_D A (WR a k h0 (fT (fT vi 0 0) 128 0) vj vF vG) := fz_wD (WR_i 128 _ rfl) hD
  refine lv_aload_n hx hb dX12_clear_10 rfl (lv_at hl 0 rfl) ?_
  refine lv_iconst (v := 0) hx hb dX12_clear_11 (by decide) ?_
  refine va_put (D := (dC, dI)) (ci := 12) (v := .int 0) (ty := .int) (C := RX12) (T := TX12) (N := 163) (fs := fM (vS a (fT (fT vi 0 0) 128 0) vj)) hx hb hts iwsRX12_clear_in12 tyX12 tyX12_ok nmX12 hown hK hP hD hS 0 rfl rfl 129 (by decide) (hts (.fieldLink RX12 990 "OptimaWorksModel" "rules" "I") (by decide +kernel)) (fun _ h9 => h9) rfl (by decide +kernel) rfl rfl (Nat.le_of_ble_eq_true rfl) dX12_clear_12 (fun H locs hP hD hS => ?_)
  have hP : va_P (dC, dI) vwCl (WR a k h0 (fT (fT (fT vi 0 0) 128 0) 129 0) vj vF vG) H := fz_w (WR_i 129 _ rfl) hP
  have hD : va_D A (WR a k h0 (fT (fT (fT vi 0 0) 128 0) 129 0) vj vF vG) := fz_wD (WR_i 129 _ rfl) hD
  refine lv_aload_n hx hb dX12_clear_15 rfl (lv_at hl 0 rfl) ?_
  refine lv_iconst (v := (-1)) hx hb dX12_clear_16 (by decide) ?_
  refine va_put (D := (dC, dI)) (ci := 12) (v := .int (-1)) (ty := .int) (C := RX12) (T := TX12) (N := 163) (fs := fM (vS a (fT (fT (fT vi 0 0) 128 0) 129 0) vj)) hx hb hts iwsRX12_clear_in12 tyX12 tyX12_ok nmX12 hown hK hP hD hS 0 rfl rfl 145 (by decide) (hts (.fieldLink RX12 300 "OptimaWorksModel" "listedMany" "I") (by decide +kernel)) (fun _ h9 => h9) rfl (by decide +kernel) rfl rfl (Nat.le_of_ble_eq_true rfl) dX12_clear_17 (fun H locs hP hD hS => ?_)
  have hP : va_P (dC, dI) vwCl (WR a k h0 (fT (fT (fT (fT vi 0 0) 128 0) 129 0) 145 (-1)) vj vF vG) H := fz_w (WR_i 145 _ rfl) hP
  have hD : va_D A (WR a k h0 (fT (fT (fT (fT vi 0 0) 128 0) 129 0) 145 (-1)) vj vF vG) := fz_wD (WR_i 145 _ rfl) hD
  refine W.widen (k := 0) (n := 0) (by decide +kernel) (by decide +kernel) ?_
  exact W.vret hx hb hr (fun t9_ ht hW => ⟨⟨(), rfl, trivial, by rw [ht]; exact hP, hD⟩, hS.F ht⟩) hS.2.2 dX12_clear_20
theorem dX12_clause_0 : decode cX12_clause 0 = .ok (.iload_n 1, 1) := dk_27 (by decide +kernel)
theorem dX12_clause_1 : decode cX12_clause 1 = .ok (.ifCond .lt 48, 3) := dk_155 (by decide +kernel)
theorem dX12_clause_4 : decode cX12_clause 4 = .ok (.iload_n 1, 1) := dk_27 (by decide +kernel)
theorem dX12_clause_5 : decode cX12_clause 5 = .ok (.sipush 4096, 3) := dk_17 (by decide +kernel)
theorem dX12_clause_8 : decode cX12_clause 8 = .ok (.if_icmp .ge 41, 3) := dk_162 (by decide +kernel)
theorem dX12_clause_11 : decode cX12_clause 11 = .ok (.iload_n 2, 1) := dk_28 (by decide +kernel)
theorem dX12_clause_12 : decode cX12_clause 12 = .ok (.ifCond .lt 37, 3) := dk_155 (by decide +kernel)
theorem dX12_clause_15 : decode cX12_clause 15 = .ok (.iload_n 2, 1) := dk_28 (by decide +kernel)
theorem dX12_clause_16 : decode cX12_clause 16 = .ok (.sipush 4096, 3) := dk_17 (by decide +kernel)
theorem dX12_clause_19 : decode cX12_clause 19 = .ok (.if_icmp .ge 30, 3) := dk_162 (by decide +kernel)
theorem dX12_clause_22 : decode cX12_clause 22 = .ok (.iload_n 1, 1) := dk_27 (by decide +kernel)
theorem dX12_clause_23 : decode cX12_clause 23 = .ok (.iload_n 2, 1) := dk_28 (by decide +kernel)
theorem dX12_clause_24 : decode cX12_clause 24 = .ok (.ior, 1) := dk_128 (by decide +kernel)
theorem dX12_clause_25 : decode cX12_clause 25 = .ok (.ifCond .eq 24, 3) := dk_153 (by decide +kernel)
theorem dX12_clause_28 : decode cX12_clause 28 = .ok (.iload_n 1, 1) := dk_27 (by decide +kernel)
theorem dX12_clause_29 : decode cX12_clause 29 = .ok (.iload_n 2, 1) := dk_28 (by decide +kernel)
theorem dX12_clause_30 : decode cX12_clause 30 = .ok (.iand, 1) := dk_126 (by decide +kernel)
theorem dX12_clause_31 : decode cX12_clause 31 = .ok (.ifCond .ne 18, 3) := dk_154 (by decide +kernel)
theorem dX12_clause_34 : decode cX12_clause 34 = .ok (.iload_n 3, 1) := dk_29 (by decide +kernel)
theorem dX12_clause_35 : decode cX12_clause 35 = .ok (.ifCond .lt 14, 3) := dk_155 (by decide +kernel)
theorem dX12_clause_38 : decode cX12_clause 38 = .ok (.iload_n 3, 1) := dk_29 (by decide +kernel)
theorem dX12_clause_39 : decode cX12_clause 39 = .ok (.sipush 1000, 3) := dk_17 (by decide +kernel)
theorem dX12_clause_42 : decode cX12_clause 42 = .ok (.if_icmp .gt 7, 3) := dk_163 (by decide +kernel)
theorem dX12_clause_45 : decode cX12_clause 45 = .ok (.iconst 1, 1) := dk_4 (by decide +kernel)
theorem dX12_clause_46 : decode cX12_clause 46 = .ok (.goto 4, 3) := dk_167 (by decide +kernel)
theorem dX12_clause_49 : decode cX12_clause 49 = .ok (.iconst 0, 1) := dk_3 (by decide +kernel)
theorem dX12_clause_50 : decode cX12_clause 50 = .ok (.istore 4, 2) := dk_54 (by decide +kernel)
theorem dX12_clause_52 : decode cX12_clause 52 = .ok (.aload_n 0, 1) := dk_42 (by decide +kernel)
theorem dX12_clause_53 : decode cX12_clause 53 = .ok (.iload 4, 2) := dk_21 (by decide +kernel)
theorem dX12_clause_55 : decode cX12_clause 55 = .ok (.ifCond .ne 7, 3) := dk_154 (by decide +kernel)
theorem dX12_clause_58 : decode cX12_clause 58 = .ok (.iconst 1, 1) := dk_4 (by decide +kernel)
theorem dX12_clause_59 : decode cX12_clause 59 = .ok (.goto 17, 3) := dk_167 (by decide +kernel)
theorem dX12_clause_62 : decode cX12_clause 62 = .ok (.aload_n 0, 1) := dk_42 (by decide +kernel)
theorem dX12_clause_63 : decode cX12_clause 63 = .ok (.getfield 1051, 3) := dk_180 (by decide +kernel)
theorem dX12_clause_66 : decode cX12_clause 66 = .ok (.bipush 24, 2) := dk_16 (by decide +kernel)
theorem dX12_clause_68 : decode cX12_clause 68 = .ok (.if_icmp .ne 7, 3) := dk_160 (by decide +kernel)
theorem dX12_clause_71 : decode cX12_clause 71 = .ok (.iconst 2, 1) := dk_5 (by decide +kernel)
theorem dX12_clause_72 : decode cX12_clause 72 = .ok (.goto 4, 3) := dk_167 (by decide +kernel)
theorem dX12_clause_75 : decode cX12_clause 75 = .ok (.iconst 0, 1) := dk_3 (by decide +kernel)
theorem dX12_clause_76 : decode cX12_clause 76 = .ok (.putfield 348, 3) := dk_181 (by decide +kernel)
theorem dX12_clause_79 : decode cX12_clause 79 = .ok (.aload_n 0, 1) := dk_42 (by decide +kernel)
theorem dX12_clause_80 : decode cX12_clause 80 = .ok (.getfield 348, 3) := dk_180 (by decide +kernel)
theorem dX12_clause_83 : decode cX12_clause 83 = .ok (.ifCond .le 5, 3) := dk_158 (by decide +kernel)
theorem dX12_clause_86 : decode cX12_clause 86 = .ok (.iconst 0, 1) := dk_3 (by decide +kernel)
theorem dX12_clause_87 : decode cX12_clause 87 = .ok (.ireturn, 1) := dk_172 (by decide +kernel)
theorem dX12_clause_88 : decode cX12_clause 88 = .ok (.aload_n 0, 1) := dk_42 (by decide +kernel)
theorem dX12_clause_89 : decode cX12_clause 89 = .ok (.getfield 303, 3) := dk_180 (by decide +kernel)
theorem dX12_clause_92 : decode cX12_clause 92 = .ok (.aload_n 0, 1) := dk_42 (by decide +kernel)
theorem dX12_clause_93 : decode cX12_clause 93 = .ok (.getfield 1051, 3) := dk_180 (by decide +kernel)
theorem dX12_clause_96 : decode cX12_clause 96 = .ok (.iload_n 1, 1) := dk_27 (by decide +kernel)
theorem dX12_clause_97 : decode cX12_clause 97 = .ok (.iastore, 1) := dk_79 (by decide +kernel)
theorem dX12_clause_98 : decode cX12_clause 98 = .ok (.aload_n 0, 1) := dk_42 (by decide +kernel)
theorem dX12_clause_99 : decode cX12_clause 99 = .ok (.getfield 306, 3) := dk_180 (by decide +kernel)
theorem dX12_clause_102 : decode cX12_clause 102 = .ok (.aload_n 0, 1) := dk_42 (by decide +kernel)
theorem dX12_clause_103 : decode cX12_clause 103 = .ok (.getfield 1051, 3) := dk_180 (by decide +kernel)
theorem dX12_clause_106 : decode cX12_clause 106 = .ok (.iload_n 2, 1) := dk_28 (by decide +kernel)
theorem dX12_clause_107 : decode cX12_clause 107 = .ok (.iastore, 1) := dk_79 (by decide +kernel)
theorem dX12_clause_108 : decode cX12_clause 108 = .ok (.aload_n 0, 1) := dk_42 (by decide +kernel)
theorem dX12_clause_109 : decode cX12_clause 109 = .ok (.getfield 309, 3) := dk_180 (by decide +kernel)
theorem dX12_clause_112 : decode cX12_clause 112 = .ok (.aload_n 0, 1) := dk_42 (by decide +kernel)
theorem dX12_clause_113 : decode cX12_clause 113 = .ok (.getfield 1051, 3) := dk_180 (by decide +kernel)
theorem dX12_clause_116 : decode cX12_clause 116 = .ok (.iload_n 3, 1) := dk_29 (by decide +kernel)
theorem dX12_clause_117 : decode cX12_clause 117 = .ok (.iastore, 1) := dk_79 (by decide +kernel)
theorem dX12_clause_118 : decode cX12_clause 118 = .ok (.aload_n 0, 1) := dk_42 (by decide +kernel)
theorem dX12_clause_119 : decode cX12_clause 119 = .ok (.dup, 1) := dk_89 (by decide +kernel)
theorem dX12_clause_120 : decode cX12_clause 120 = .ok (.getfield 1051, 3) := dk_180 (by decide +kernel)
theorem dX12_clause_123 : decode cX12_clause 123 = .ok (.iconst 1, 1) := dk_4 (by decide +kernel)
theorem dX12_clause_124 : decode cX12_clause 124 = .ok (.iadd, 1) := dk_96 (by decide +kernel)
theorem dX12_clause_125 : decode cX12_clause 125 = .ok (.putfield 1051, 3) := dk_181 (by decide +kernel)
theorem dX12_clause_128 : decode cX12_clause 128 = .ok (.aload_n 0, 1) := dk_42 (by decide +kernel)
theorem dX12_clause_129 : decode cX12_clause 129 = .ok (.getfield 1051, 3) := dk_180 (by decide +kernel)
theorem dX12_clause_132 : decode cX12_clause 132 = .ok (.iconst 1, 1) := dk_4 (by decide +kernel)
theorem dX12_clause_133 : decode cX12_clause 133 = .ok (.isub, 1) := dk_100 (by decide +kernel)
theorem dX12_clause_134 : decode cX12_clause 134 = .ok (.ireturn, 1) := dk_172 (by decide +kernel)
def wsRX12_clause : List Cond := .code yX12_clause cX12_clause 5 (some .int) :: ([.fieldLink RX12 1051 "OptimaWorksModel" "clauses" "I", .fieldLink RX12 348 "OptimaWorksModel" "thrown" "I", .fieldLink RX12 303 "OptimaWorksModel" "wants" "[I", .fieldLink RX12 306 "OptimaWorksModel" "wantsNot" "[I", .fieldLink RX12 309 "OptimaWorksModel" "weights" "[I"] ++ wsX120)
theorem iwsRX12_clause_in12 : ∀ w ∈ wsX120, w ∈ wsRX12_clause := fun _ h => List.mem_cons_of_mem _ (List.mem_append_right _ h)
theorem gdwsRX12_clause : wsRX12_clause.all goodWord = true := gdC rfl (gdA (by decide +kernel : ([.fieldLink RX12 1051 "OptimaWorksModel" "clauses" "I", .fieldLink RX12 348 "OptimaWorksModel" "thrown" "I", .fieldLink RX12 303 "OptimaWorksModel" "wants" "[I", .fieldLink RX12 306 "OptimaWorksModel" "wantsNot" "[I", .fieldLink RX12 309 "OptimaWorksModel" "weights" "[I"] : List Cond).all goodWord = true) gdwsX120)
theorem hm_r_X12_clause_0 : (.fieldLink RX12 1051 "OptimaWorksModel" "clauses" "I" : Cond) ∈ wsRX12_clause := by decide +kernel
theorem hm_r_X12_clause_1 : (.fieldLink RX12 348 "OptimaWorksModel" "thrown" "I" : Cond) ∈ wsRX12_clause := by decide +kernel
set_option maxHeartbeats 4000000 in
set_option maxRecDepth 100000 in
/-- clause(yes, no, weight) -/
theorem r_X12_clause (l : Launch) (dC : Nat → ClassId) (dI : Nat → Nat → Nat) (a : Nat → Nat) (k : Nat → ClassId) (h0 : Nat) (vi : Nat → Int32) (vj : Nat → Int64) (vF : Nat → Nat → Int32) (vG : Nat → Nat → Int64) (yI : Int32) (nI_ : Int32) (wI : Int32) (cl : Nat) (hcl : vi 146 = nI cl) (hcl24 : cl ≤ 24) (sz : Nat) : Met l yX12_clause wsRX12_clause ({ frames := 0, cells := 0, slots := 0, locals := 0 }) (va_Pc [.ref h0, .int yI, .int nI_, .int wI] (fun U => U.heap.size = sz ∧ va_P (dC, dI) vwCl (WR a k h0 vi vj vF vG) U.heap ∧ va_K (dC, dI) vwCl (tX12 k) U ∧ va_D (fun _ => True) (WR a k h0 vi vj vF vG))) (va_Qi (fun (r : Int32) (u : (Int32) × (Nat) × (Nat → Int32) × (Nat → Int32) × (Nat → Int32)) => (((u.2.1) ≤ 24) ∧ ((u.1) = 1) ∧ (¬ (0 ≤ (yI).toInt ∧ (yI).toInt ≤ 4095 ∧ 0 ≤ (nI_).toInt ∧ (nI_).toInt ≤ 4095 ∧ (yI ||| nI_).toInt ≠ 0 ∧ (yI &&& nI_).toInt = 0 ∧ 0 ≤ (wI).toInt ∧ (wI).toInt ≤ 1000)) ∧ (((((u.2.1) : Nat) : Int), (u.2.2.1), (u.2.2.2.1), (u.2.2.2.2)) = (((cl : Nat) : Int), vF 92, vF 93, vF 94))) ∨ (((u.2.1) ≤ 24) ∧ ((u.1) = 2) ∧ ((0 ≤ (yI).toInt ∧ (yI).toInt ≤ 4095 ∧ 0 ≤ (nI_).toInt ∧ (nI_).toInt ≤ 4095 ∧ (yI ||| nI_).toInt ≠ 0 ∧ (yI &&& nI_).toInt = 0 ∧ 0 ≤ (wI).toInt ∧ (wI).toInt ≤ 1000) ∧ cl = 24) ∧ (((((u.2.1) : Nat) : Int), (u.2.2.1), (u.2.2.2.1), (u.2.2.2.2)) = (((cl : Nat) : Int), vF 92, vF 93, vF 94))) ∨ (((u.2.1) ≤ 24) ∧ ((u.1) = 0) ∧ ((0 ≤ (yI).toInt ∧ (yI).toInt ≤ 4095 ∧ 0 ≤ (nI_).toInt ∧ (nI_).toInt ≤ 4095 ∧ (yI ||| nI_).toInt ≠ 0 ∧ (yI &&& nI_).toInt = 0 ∧ 0 ≤ (wI).toInt ∧ (wI).toInt ≤ 1000) ∧ cl < 24) ∧ (((((u.2.1) : Nat) : Int), (u.2.2.1), (u.2.2.2.1), (u.2.2.2.2)) = clAdd (((cl : Nat) : Int), vF 92, vF 93, vF 94) yI nI_ wI) ∧ (r.toInt = ((cl : Nat) : Int)))) (fun (u : (Int32) × (Nat) × (Nat → Int32) × (Nat → Int32) × (Nat → Int32)) t => va_P (dC, dI) vwCl (WR a k h0 (fT (fT vi 0 (u.1)) 146 (nI (u.2.1))) vj (fT (fT (fT vF 92 (u.2.2.1)) 93 (u.2.2.2.1)) 94 (u.2.2.2.2)) vG) t.heap ∧ va_D (va_A (WR a k h0 vi vj vF vG) sz) (WR a k h0 (fT (fT vi 0 (u.1)) 146 (nI (u.2.1))) vj (fT (fT (fT vF 92 (u.2.2.1)) 93 (u.2.2.2.1)) 94 (u.2.2.2.2)) vG)) (va_A (WR a k h0 vi vj vF vG) sz)) 0 0 (va_A (WR a k h0 vi vj vF vG) sz) := by
  refine Met.ofW (cc := cX12_clause) (maxL := 5) (ret := (some .int)) (by decide) rfl ?_
  intro p e s m args below meth c s₁ B hml hv
  obtain ⟨rfl, hsz, hP, hK, hD0⟩ := hv
  have hx := B.exec
  have hb := B.bytes
  have hr := B.returns
  have hts := atoms_spec (ws := wsRX12_clause) B.pre
  have hown : s.vm.findClass RX12 = some m.cls := findClass_of_methodNamed B.named
  have hlocks := B.notSynchronized
  subst hsz
  have hD := hD0.self (sz := s.heap.size)
  generalize hAe : va_A (WR a k h0 vi vj vF vG) s.heap.size = A at hD ⊢
  have hA : ∀ q : Nat, s.heap.size ≤ q → A q := fun q h => by rw [← hAe]; exact Or.inr h
  have hS : va_S A s.heap s.heap [] := va_S.rf
  have hl := lv_entry ([.ref h0, .int yI, .int nI_, .int wI]) (n := 5) (Nat.le_of_ble_eq_true rfl)
  rw [lg_entry_eq]
  generalize (lg_sl ([.ref h0, .int yI, .int nI_, .int wI]) ++ List.replicate (5 - (lg_sl ([.ref h0, .int yI, .int nI_, .int wI])).length) Slot.unset).toArray = ls at hl ⊢
  have hl : lv_has ls 5 [(0, .ref h0), (1, .int yI), (2, .int nI_), (3, .int wI)] := hl
  refine lv_iload_n hx hb dX12_clause_0 rfl (lv_at hl 1 rfl) ?_
  refine W.cut (pc := 50) (fun H locs ls stk => ∃ (jb : Int32), (((jb).toInt = 1 ∧ (0 ≤ (yI).toInt ∧ (yI).toInt ≤ 4095 ∧ 0 ≤ (nI_).toInt ∧ (nI_).toInt ≤ 4095 ∧ (yI ||| nI_).toInt ≠ 0 ∧ (yI &&& nI_).toInt = 0 ∧ 0 ≤ (wI).toInt ∧ (wI).toInt ≤ 1000)) ∨ ((jb).toInt = 0 ∧ ¬ (0 ≤ (yI).toInt ∧ (yI).toInt ≤ 4095 ∧ 0 ≤ (nI_).toInt ∧ (nI_).toInt ≤ 4095 ∧ (yI ||| nI_).toInt ≠ 0 ∧ (yI &&& nI_).toInt = 0 ∧ 0 ≤ (wI).toInt ∧ (wI).toInt ≤ 1000))) ∧  stk = [.int jb] ∧ va_P (dC, dI) vwCl (WR a k h0 vi vj vF vG) H ∧ va_D A (WR a k h0 vi vj vF vG) ∧ va_S A s.heap H locs ∧ lv_has ls 5 [(0, .ref h0), (1, .int yI), (2, .int nI_), (3, .int wI)]) (fun join1 => ?_) ?_
  · refine lv_if_lt (tgt := 49) hx hb dX12_clause_1 (by decide) (fun c_1 => ?_) (fun c_1 => ?_)
    · have t_1 : (yI).toInt < 0 := toI_lt c_1 rfl (by decide)
      refine lv_iconst (v := 0) hx hb dX12_clause_49 (by decide) ?_
      have hl : lv_has _ _ ([(0, .ref h0), (1, .int yI), (2, .int nI_), (3, .int wI)]) := lv_sub hl [0, 1, 2, 3] rfl
      exact join1 _ _ _ _ ⟨0, by first | exact Or.inl ⟨by decide, by omega⟩ | exact Or.inr ⟨by decide, by omega⟩, rfl, hP, hD, hS, hl⟩
    · have t_1 : ¬ (yI).toInt < 0 := toI_nlt c_1 rfl (by decide)
      refine lv_iload_n hx hb dX12_clause_4 rfl (lv_at hl 1 rfl) ?_
      refine lv_sipush (v := 4096) hx hb dX12_clause_5 (by decide) ?_
      refine lv_icmp_ge (tgt := 49) hx hb dX12_clause_8 (by decide) (fun c_8 => ?_) (fun c_8 => ?_)
      · have t_8 : (yI).toInt ≥ 4096 := toI_ge c_8 rfl (by decide)
        refine lv_iconst (v := 0) hx hb dX12_clause_49 (by decide) ?_
        have hl : lv_has _ _ ([(0, .ref h0), (1, .int yI), (2, .int nI_), (3, .int wI)]) := lv_sub hl [0, 1, 2, 3] rfl
        exact join1 _ _ _ _ ⟨0, by first | exact Or.inl ⟨by decide, by omega⟩ | exact Or.inr ⟨by decide, by omega⟩, rfl, hP, hD, hS, hl⟩
      · have t_8 : ¬ (yI).toInt ≥ 4096 := toI_nge c_8 rfl (by decide)
        refine lv_iload_n hx hb dX12_clause_11 rfl (lv_at hl 2 rfl) ?_
        refine lv_if_lt (tgt := 49) hx hb dX12_clause_12 (by decide) (fun c_12 => ?_) (fun c_12 => ?_)
        · have t_12 : (nI_).toInt < 0 := toI_lt c_12 rfl (by decide)
          refine lv_iconst (v := 0) hx hb dX12_clause_49 (by decide) ?_
          have hl : lv_has _ _ ([(0, .ref h0), (1, .int yI), (2, .int nI_), (3, .int wI)]) := lv_sub hl [0, 1, 2, 3] rfl
          exact join1 _ _ _ _ ⟨0, by first | exact Or.inl ⟨by decide, by omega⟩ | exact Or.inr ⟨by decide, by omega⟩, rfl, hP, hD, hS, hl⟩
        · have t_12 : ¬ (nI_).toInt < 0 := toI_nlt c_12 rfl (by decide)
          refine lv_iload_n hx hb dX12_clause_15 rfl (lv_at hl 2 rfl) ?_
          refine lv_sipush (v := 4096) hx hb dX12_clause_16 (by decide) ?_
          refine lv_icmp_ge (tgt := 49) hx hb dX12_clause_19 (by decide) (fun c_19 => ?_) (fun c_19 => ?_)
          · have t_19 : (nI_).toInt ≥ 4096 := toI_ge c_19 rfl (by decide)
            refine lv_iconst (v := 0) hx hb dX12_clause_49 (by decide) ?_
            have hl : lv_has _ _ ([(0, .ref h0), (1, .int yI), (2, .int nI_), (3, .int wI)]) := lv_sub hl [0, 1, 2, 3] rfl
            exact join1 _ _ _ _ ⟨0, by first | exact Or.inl ⟨by decide, by omega⟩ | exact Or.inr ⟨by decide, by omega⟩, rfl, hP, hD, hS, hl⟩
          · have t_19 : ¬ (nI_).toInt ≥ 4096 := toI_nge c_19 rfl (by decide)
            refine lv_iload_n hx hb dX12_clause_22 rfl (lv_at hl 1 rfl) ?_
            refine lv_iload_n hx hb dX12_clause_23 rfl (lv_at hl 2 rfl) ?_
            refine lv_ior hx hb dX12_clause_24 ?_
            refine lv_if_eq (tgt := 49) hx hb dX12_clause_25 (by decide) (fun c_25 => ?_) (fun c_25 => ?_)
            · have t_25 : ((yI ||| nI_)).toInt = 0 := toI_eq c_25 rfl (by decide)
              refine lv_iconst (v := 0) hx hb dX12_clause_49 (by decide) ?_
              have hl : lv_has _ _ ([(0, .ref h0), (1, .int yI), (2, .int nI_), (3, .int wI)]) := lv_sub hl [0, 1, 2, 3] rfl
              exact join1 _ _ _ _ ⟨0, by first | exact Or.inl ⟨by decide, by omega⟩ | exact Or.inr ⟨by decide, by omega⟩, rfl, hP, hD, hS, hl⟩
            · have t_25 : ¬ ((yI ||| nI_)).toInt = 0 := toI_neq c_25 rfl (by decide)
              refine lv_iload_n hx hb dX12_clause_28 rfl (lv_at hl 1 rfl) ?_
              refine lv_iload_n hx hb dX12_clause_29 rfl (lv_at hl 2 rfl) ?_
              refine lv_iand hx hb dX12_clause_30 ?_
              refine lv_if_ne (tgt := 49) hx hb dX12_clause_31 (by decide) (fun c_31 => ?_) (fun c_31 => ?_)
              · have t_31 : ((yI &&& nI_)).toInt ≠ 0 := toI_ne c_31 rfl (by decide)
                refine lv_iconst (v := 0) hx hb dX12_clause_49 (by decide) ?_
                have hl : lv_has _ _ ([(0, .ref h0), (1, .int yI), (2, .int nI_), (3, .int wI)]) := lv_sub hl [0, 1, 2, 3] rfl
                exact join1 _ _ _ _ ⟨0, by first | exact Or.inl ⟨by decide, by omega⟩ | exact Or.inr ⟨by decide, by omega⟩, rfl, hP, hD, hS, hl⟩
              · have t_31 : ((yI &&& nI_)).toInt = 0 := toI_nne c_31 rfl (by decide)
                refine lv_iload_n hx hb dX12_clause_34 rfl (lv_at hl 3 rfl) ?_
                refine lv_if_lt (tgt := 49) hx hb dX12_clause_35 (by decide) (fun c_35 => ?_) (fun c_35 => ?_)
                · have t_35 : (wI).toInt < 0 := toI_lt c_35 rfl (by decide)
                  refine lv_iconst (v := 0) hx hb dX12_clause_49 (by decide) ?_
                  have hl : lv_has _ _ ([(0, .ref h0), (1, .int yI), (2, .int nI_), (3, .int wI)]) := lv_sub hl [0, 1, 2, 3] rfl
                  exact join1 _ _ _ _ ⟨0, by first | exact Or.inl ⟨by decide, by omega⟩ | exact Or.inr ⟨by decide, by omega⟩, rfl, hP, hD, hS, hl⟩
                · have t_35 : ¬ (wI).toInt < 0 := toI_nlt c_35 rfl (by decide)
                  refine lv_iload_n hx hb dX12_clause_38 rfl (lv_at hl 3 rfl) ?_
                  refine lv_sipush (v := 1000) hx hb dX12_clause_39 (by decide) ?_
                  refine lv_icmp_gt (tgt := 49) hx hb dX12_clause_42 (by decide) (fun c_42 => ?_) (fun c_42 => ?_)
                  · have t_42 : (wI).toInt > 1000 := toI_gt c_42 rfl (by decide)
                    refine lv_iconst (v := 0) hx hb dX12_clause_49 (by decide) ?_
                    have hl : lv_has _ _ ([(0, .ref h0), (1, .int yI), (2, .int nI_), (3, .int wI)]) := lv_sub hl [0, 1, 2, 3] rfl
                    exact join1 _ _ _ _ ⟨0, by first | exact Or.inl ⟨by decide, by omega⟩ | exact Or.inr ⟨by decide, by omega⟩, rfl, hP, hD, hS, hl⟩
                  · have t_42 : ¬ (wI).toInt > 1000 := toI_ngt c_42 rfl (by decide)
                    refine lv_iconst (v := 1) hx hb dX12_clause_45 (by decide) ?_
                    refine lv_goto (tgt := 50) hx hb dX12_clause_46 (by decide) ?_
                    have hl : lv_has _ _ ([(0, .ref h0), (1, .int yI), (2, .int nI_), (3, .int wI)]) := lv_sub hl [0, 1, 2, 3] rfl
                    exact join1 _ _ _ _ ⟨1, by first | exact Or.inl ⟨by decide, by omega⟩ | exact Or.inr ⟨by decide, by omega⟩, rfl, hP, hD, hS, hl⟩
  · rintro H locs ls stk ⟨jb, hjb, rfl, hP, hD, hS, hl⟩
    refine lv_istore hx hb dX12_clause_50 hl (by decide) rfl (fun ls (hl : lv_has ls _ ([(4, .int jb), (0, .ref h0), (1, .int yI), (2, .int nI_), (3, .int wI)])) => ?_)
    refine lv_aload_n hx hb dX12_clause_52 rfl (lv_at hl 1 rfl) ?_
    refine lv_iload hx hb dX12_clause_53 (lv_at hl 0 rfl) ?_
    refine lv_if_ne (tgt := 62) hx hb dX12_clause_55 (by decide) (fun c_55 => ?_) (fun c_55 => ?_)
    · have t_55 : (jb).toInt ≠ 0 := toI_ne c_55 rfl (by decide)
      refine lv_aload_n hx hb dX12_clause_62 rfl (lv_at hl 1 rfl) ?_
      refine va_get (D := (dC, dI)) (ci := 12) (v := .int (vi 146)) (C := RX12) (T := TX12) (N := 163) (fs := fM (vS a vi vj)) hx hb hts iwsRX12_clause_in12 hown hK hP 0 rfl rfl 146 (by decide) (hts _ hm_r_X12_clause_0) (fun _ h9 => h9) rfl dX12_clause_63 ?_
      refine lv_topi (fun y1 hy1 => ?_)
      obtain rfl : (nI cl) = y1 := (hy1.trans (hcl)).symm
      refine lv_bipush (v := 24) hx hb dX12_clause_66 (by decide) ?_
      refine lv_icmp_ne (tgt := 75) hx hb dX12_clause_68 (by decide) (fun c_68 => ?_) (fun c_68 => ?_)
      · have t_68 : ((cl : Nat) : Int) ≠ 24 := toI_ne c_68 (nI_toInt (by omega)) (by decide)
        refine lv_iconst (v := 0) hx hb dX12_clause_75 (by decide) ?_
        refine va_put (D := (dC, dI)) (ci := 12) (v := .int 0) (ty := .int) (C := RX12) (T := TX12) (N := 163) (fs := fM (vS a vi vj)) hx hb hts iwsRX12_clause_in12 tyX12 tyX12_ok nmX12 hown hK hP hD hS 0 rfl rfl 0 (by decide) (hts _ hm_r_X12_clause_1) (fun _ h9 => h9) rfl (by decide +kernel) rfl rfl (Nat.le_of_ble_eq_true rfl) dX12_clause_76 (fun H locs hP hD hS => ?_)
        have hP : va_P (dC, dI) vwCl (WR a k h0 (fT vi 0 0) vj vF vG) H := fz_w (WR_i 0 _ rfl) hP
        have hD : va_D A (WR a k h0 (fT vi 0 0) vj vF vG) := fz_wD (WR_i 0 _ rfl) hD
        refine lv_aload_n hx hb dX12_clause_79 rfl (lv_at hl 1 rfl) ?_
        refine va_get (D := (dC, dI)) (ci := 12) (v := .int 0) (C := RX12) (T := TX12) (N := 163) (fs := fM (vS a (fT vi 0 0) vj)) hx hb hts iwsRX12_clause_in12 hown hK hP 0 rfl rfl 0 (by decide) (hts _ hm_r_X12_clause_1) (fun _ h9 => h9) rfl dX12_clause_80 ?_
        refine lv_if_le (tgt := 88) hx hb dX12_clause_83 (by decide) (fun _ => ?_) (fun c9 => absurd (by decide) c9)
        refine lv_aload_n hx hb dX12_clause_88 rfl (lv_at hl 1 rfl) ?_
        refine va_get (D := (dC, dI)) (ci := 12) (v := .ref (a 92)) (C := RX12) (T := TX12) (N := 163) (fs := fM (vS a (fT vi 0 0) vj)) hx hb hts iwsRX12_clause_in12 hown hK hP 0 rfl rfl 147 (by decide) (hts (.fieldLink RX12 303 "OptimaWorksModel" "wants" "[I") (by decide +kernel)) (fun _ h9 => h9) rfl dX12_clause_89 ?_
        refine lv_aload_n hx hb dX12_clause_92 rfl (lv_at hl 1 rfl) ?_
        refine va_get (D := (dC, dI)) (ci := 12) (v := .int (vi 146)) (C := RX12) (T := TX12) (N := 163) (fs := fM (vS a (fT vi 0 0) vj)) hx hb hts iwsRX12_clause_in12 hown hK hP 0 rfl rfl 146 (by decide) (hts _ hm_r_X12_clause_0) (fun _ h9 => h9) rfl dX12_clause_93 ?_
        refine lv_topi (fun y2 hy2 => ?_)
        obtain rfl : (nI cl) = y2 := (hy2.trans (hcl)).symm
        refine lv_iload_n hx hb dX12_clause_96 rfl (lv_at hl 2 rfl) ?_
        refine va_iast (cA := k 92) (n := 24) (f := (vF 92)) hx hb hK hP hD hS 93 92 (WR_get 92 (by decide)) (TR_get 92 (by decide)) (vp_in_nI (show cl < 24 by omega) (by omega)) dX12_clause_97 (fun H locs hP hD hS => ?_)
        have hP : va_P (dC, dI) vwCl (WR a k h0 (fT vi 0 0) vj (fT vF 92 (upd (vF 92) ((nI cl)).toNatClampNeg yI)) vG) H := fz_w (WR_F 92 (by decide) _ rfl) hP
        have hD : va_D A (WR a k h0 (fT vi 0 0) vj (fT vF 92 (upd (vF 92) ((nI cl)).toNatClampNeg yI)) vG) := fz_wD (WR_F 92 (by decide) _ rfl) hD
        refine lv_aload_n hx hb dX12_clause_98 rfl (lv_at hl 1 rfl) ?_
        refine va_get (D := (dC, dI)) (ci := 12) (v := .ref (a 93)) (C := RX12) (T := TX12) (N := 163) (fs := fM (vS a (fT vi 0 0) vj)) hx hb hts iwsRX12_clause_in12 hown hK hP 0 rfl rfl 148 (by decide) (hts (.fieldLink RX12 306 "OptimaWorksModel" "wantsNot" "[I") (by decide +kernel)) (fun _ h9 => h9) rfl dX12_clause_99 ?_
        refine lv_aload_n hx hb dX12_clause_102 rfl (lv_at hl 1 rfl) ?_
        refine va_get (D := (dC, dI)) (ci := 12) (v := .int (vi 146)) (C := RX12) (T := TX12) (N := 163) (fs := fM (vS a (fT vi 0 0) vj)) hx hb hts iwsRX12_clause_in12 hown hK hP 0 rfl rfl 146 (by decide) (hts _ hm_r_X12_clause_0) (fun _ h9 => h9) rfl dX12_clause_103 ?_
        refine lv_topi (fun y3 hy3 => ?_)
        obtain rfl : (nI cl) = y3 := (hy3.trans (hcl)).symm
        refine lv_iload_n hx hb dX12_clause_106 rfl (lv_at hl 3 rfl) ?_
        refine va_iast (cA := k 93) (n := 24) (f := (vF 93)) hx hb hK hP hD hS 94 93 (WR_get 93 (by decide)) (TR_get 93 (by decide)) (vp_in_nI (show cl < 24 by omega) (by omega)) dX12_clause_107 (fun H locs hP hD hS => ?_)
        have hP : va_P (dC, dI) vwCl (WR a k h0 (fT vi 0 0) vj (fT (fT vF 92 (upd (vF 92) ((nI cl)).toNatClampNeg yI)) 93 (upd (vF 93) ((nI cl)).toNatClampNeg nI_)) vG) H := fz_w (WR_F 93 (by decide) _ rfl) hP
        have hD : va_D A (WR a k h0 (fT vi 0 0) vj (fT (fT vF 92 (upd (vF 92) ((nI cl)).toNatClampNeg yI)) 93 (upd (vF 93) ((nI cl)).toNatClampNeg nI_)) vG) := fz_wD (WR_F 93 (by decide) _ rfl) hD
        refine lv_aload_n hx hb dX12_clause_108 rfl (lv_at hl 1 rfl) ?_
        refine va_get (D := (dC, dI)) (ci := 12) (v := .ref (a 94)) (C := RX12) (T := TX12) (N := 163) (fs := fM (vS a (fT vi 0 0) vj)) hx hb hts iwsRX12_clause_in12 hown hK hP 0 rfl rfl 149 (by decide) (hts (.fieldLink RX12 309 "OptimaWorksModel" "weights" "[I") (by decide +kernel)) (fun _ h9 => h9) rfl dX12_clause_109 ?_
        refine lv_aload_n hx hb dX12_clause_112 rfl (lv_at hl 1 rfl) ?_
        refine va_get (D := (dC, dI)) (ci := 12) (v := .int (vi 146)) (C := RX12) (T := TX12) (N := 163) (fs := fM (vS a (fT vi 0 0) vj)) hx hb hts iwsRX12_clause_in12 hown hK hP 0 rfl rfl 146 (by decide) (hts _ hm_r_X12_clause_0) (fun _ h9 => h9) rfl dX12_clause_113 ?_
        refine lv_topi (fun y4 hy4 => ?_)
        obtain rfl : (nI cl) = y4 := (hy4.trans (hcl)).symm
        refine lv_iload_n hx hb dX12_clause_116 rfl (lv_at hl 4 rfl) ?_
        refine va_iast (cA := k 94) (n := 24) (f := (vF 94)) hx hb hK hP hD hS 95 94 (WR_get 94 (by decide)) (TR_get 94 (by decide)) (vp_in_nI (show cl < 24 by omega) (by omega)) dX12_clause_117 (fun H locs hP hD hS => ?_)
        have hP : va_P (dC, dI) vwCl (WR a k h0 (fT vi 0 0) vj (fT (fT (fT vF 92 (upd (vF 92) ((nI cl)).toNatClampNeg yI)) 93 (upd (vF 93) ((nI cl)).toNatClampNeg nI_)) 94 (upd (vF 94) ((nI cl)).toNatClampNeg wI)) vG) H := fz_w (WR_F 94 (by decide) _ rfl) hP
        have hD : va_D A (WR a k h0 (fT vi 0 0) vj (fT (fT (fT vF 92 (upd (vF 92) ((nI cl)).toNatClampNeg yI)) 93 (upd (vF 93) ((nI cl)).toNatClampNeg nI_)) 94 (upd (vF 94) ((nI cl)).toNatClampNeg wI)) vG) := fz_wD (WR_F 94 (by decide) _ rfl) hD
        refine lv_aload_n hx hb dX12_clause_118 rfl (lv_at hl 1 rfl) ?_
        refine lv_dup hx hb dX12_clause_119 rfl ?_
        refine va_get (D := (dC, dI)) (ci := 12) (v := .int (vi 146)) (C := RX12) (T := TX12) (N := 163) (fs := fM (vS a (fT vi 0 0) vj)) hx hb hts iwsRX12_clause_in12 hown hK hP 0 rfl rfl 146 (by decide) (hts _ hm_r_X12_clause_0) (fun _ h9 => h9) rfl dX12_clause_120 ?_
        refine lv_topi (fun y5 hy5 => ?_)
        obtain rfl : (nI cl) = y5 := (hy5.trans (hcl)).symm
        refine lv_iconst (v := 1) hx hb dX12_clause_123 (by decide) ?_
        refine lv_iadd hx hb dX12_clause_124 ?_
        refine lv_topi (fun y6 hy6 => ?_)
        obtain rfl : (nI (cl + 1)) = y6 := (hy6.trans (nI_add cl 1)).symm
        refine va_put (D := (dC, dI)) (ci := 12) (v := .int (nI (cl + 1))) (ty := .int) (C := RX12) (T := TX12) (N := 163) (fs := fM (vS a (fT vi 0 0) vj)) hx hb hts iwsRX12_clause_in12 tyX12 tyX12_ok nmX12 hown hK hP hD hS 0 rfl rfl 146 (by decide) (hts _ hm_r_X12_clause_0) (fun _ h9 => h9) rfl (by decide +kernel) rfl rfl (Nat.le_of_ble_eq_true rfl) dX12_clause_125 (fun H locs hP hD hS => ?_)
        have hP : va_P (dC, dI) vwCl (WR a k h0 (fT (fT vi 0 0) 146 (nI (cl + 1))) vj (fT (fT (fT vF 92 (upd (vF 92) ((nI cl)).toNatClampNeg yI)) 93 (upd (vF 93) ((nI cl)).toNatClampNeg nI_)) 94 (upd (vF 94) ((nI cl)).toNatClampNeg wI)) vG) H := fz_w (WR_i 146 _ rfl) hP
        have hD : va_D A (WR a k h0 (fT (fT vi 0 0) 146 (nI (cl + 1))) vj (fT (fT (fT vF 92 (upd (vF 92) ((nI cl)).toNatClampNeg yI)) 93 (upd (vF 93) ((nI cl)).toNatClampNeg nI_)) 94 (upd (vF 94) ((nI cl)).toNatClampNeg wI)) vG) := fz_wD (WR_i 146 _ rfl) hD
        refine lv_aload_n hx hb dX12_clause_128 rfl (lv_at hl 1 rfl) ?_
        refine va_get (D := (dC, dI)) (ci := 12) (v := .int (nI (cl + 1))) (C := RX12) (T := TX12) (N := 163) (fs := fM (vS a (fT (fT vi 0 0) 146 (nI (cl + 1))) vj)) hx hb hts iwsRX12_clause_in12 hown hK hP 0 rfl rfl 146 (by decide) (hts _ hm_r_X12_clause_0) (fun _ h9 => h9) rfl dX12_clause_129 ?_
        refine lv_iconst (v := 1) hx hb dX12_clause_132 (by decide) ?_
        refine lv_isub hx hb dX12_clause_133 ?_
        refine W.widen (k := 0) (n := 0) (by decide +kernel) (by decide +kernel) ?_
        exact W.iret (v := ((nI (cl + 1)) - 1)) hx hb hr (fun t9_ ht hW => ⟨⟨((nI (cl + 1)) - 1), (0, (cl + 1), (upd (vF 92) ((nI cl)).toNatClampNeg yI), (upd (vF 93) ((nI cl)).toNatClampNeg nI_), (upd (vF 94) ((nI cl)).toNatClampNeg wI)), rfl, by (try dsimp only); exact Or.inr (Or.inr (⟨by omega, rfl, by omega, clAdd_of (by omega) (nI_clamp (by omega)) rfl rfl rfl, (pk_sub_toInt (a := cl + 1) (b := 1) (by omega) (by omega)).trans (by omega)⟩)), by rw [ht]; exact hP, hD⟩, hS.F ht⟩) hS.2.2 dX12_clause_134
      · have t_68 : ((cl : Nat) : Int) = 24 := toI_nne c_68 (nI_toInt (by omega)) (by decide)
        refine lv_iconst (v := 2) hx hb dX12_clause_71 (by decide) ?_
        refine lv_goto (tgt := 76) hx hb dX12_clause_72 (by decide) ?_
        refine va_put (D := (dC, dI)) (ci := 12) (v := .int 2) (ty := .int) (C := RX12) (T := TX12) (N := 163) (fs := fM (vS a vi vj)) hx hb hts iwsRX12_clause_in12 tyX12 tyX12_ok nmX12 hown hK hP hD hS 0 rfl rfl 0 (by decide) (hts _ hm_r_X12_clause_1) (fun _ h9 => h9) rfl (by decide +kernel) rfl rfl (Nat.le_of_ble_eq_true rfl) dX12_clause_76 (fun H locs hP hD hS => ?_)
        have hP : va_P (dC, dI) vwCl (WR a k h0 (fT vi 0 2) vj vF vG) H := fz_w (WR_i 0 _ rfl) hP
        have hD : va_D A (WR a k h0 (fT vi 0 2) vj vF vG) := fz_wD (WR_i 0 _ rfl) hD
        refine lv_aload_n hx hb dX12_clause_79 rfl (lv_at hl 1 rfl) ?_
        refine va_get (D := (dC, dI)) (ci := 12) (v := .int 2) (C := RX12) (T := TX12) (N := 163) (fs := fM (vS a (fT vi 0 2) vj)) hx hb hts iwsRX12_clause_in12 hown hK hP 0 rfl rfl 0 (by decide) (hts _ hm_r_X12_clause_1) (fun _ h9 => h9) rfl dX12_clause_80 ?_
        refine lv_if_le (tgt := 88) hx hb dX12_clause_83 (by decide) (fun c9 => absurd c9 (by decide)) (fun _ => ?_)
        refine lv_iconst (v := 0) hx hb dX12_clause_86 (by decide) ?_
        refine W.widen (k := 0) (n := 0) (by decide +kernel) (by decide +kernel) ?_
        have e9 : fT (fT vi 0 2) 146 (nI cl) = fT vi 0 2 := Eq.trans (congrArg (fT _ 146) (show nI cl = vi 146 from (by first | with_reducible rfl | with_reducible assumption | (symm; with_reducible assumption) | rfl | assumption | (symm; assumption) | (subst_vars; rfl)))) (id_1 rfl)
        have hP := wr_Pi e9 hP
        have hD := wr_Di e9 hD
        clear e9
        have e9 : fT (fT (fT vF 92 (vF 92)) 93 (vF 93)) 94 (vF 94) = vF := (fT_id _ _ ((fT_ne _ _ (Nat.ne_of_beq_eq_false rfl)).trans (fT_ne _ _ (Nat.ne_of_beq_eq_false rfl)))).trans ((fT_id _ _ (fT_ne _ _ (Nat.ne_of_beq_eq_false rfl))).trans (fT_id _ _ (rfl)))
        have hP := wr_PF e9 hP
        have hD := wr_DF e9 hD
        clear e9
        exact W.iret (v := 0) hx hb hr (fun t9_ ht hW => ⟨⟨0, (2, cl, (vF 92), (vF 93), (vF 94)), rfl, by (try dsimp only); exact Or.inr (Or.inl (⟨by omega, rfl, by omega, rfl⟩)), by rw [ht]; exact hP, hD⟩, hS.F ht⟩) hS.2.2 dX12_clause_87
    · have t_55 : (jb).toInt = 0 := toI_nne c_55 rfl (by decide)
      refine lv_iconst (v := 1) hx hb dX12_clause_58 (by decide) ?_
      refine lv_goto (tgt := 76) hx hb dX12_clause_59 (by decide) ?_
      refine va_put (D := (dC, dI)) (ci := 12) (v := .int 1) (ty := .int) (C := RX12) (T := TX12) (N := 163) (fs := fM (vS a vi vj)) hx hb hts iwsRX12_clause_in12 tyX12 tyX12_ok nmX12 hown hK hP hD hS 0 rfl rfl 0 (by decide) (hts _ hm_r_X12_clause_1) (fun _ h9 => h9) rfl (by decide +kernel) rfl rfl (Nat.le_of_ble_eq_true rfl) dX12_clause_76 (fun H locs hP hD hS => ?_)
      have hP : va_P (dC, dI) vwCl (WR a k h0 (fT vi 0 1) vj vF vG) H := fz_w (WR_i 0 _ rfl) hP
      have hD : va_D A (WR a k h0 (fT vi 0 1) vj vF vG) := fz_wD (WR_i 0 _ rfl) hD
      refine lv_aload_n hx hb dX12_clause_79 rfl (lv_at hl 1 rfl) ?_
      refine va_get (D := (dC, dI)) (ci := 12) (v := .int 1) (C := RX12) (T := TX12) (N := 163) (fs := fM (vS a (fT vi 0 1) vj)) hx hb hts iwsRX12_clause_in12 hown hK hP 0 rfl rfl 0 (by decide) (hts _ hm_r_X12_clause_1) (fun _ h9 => h9) rfl dX12_clause_80 ?_
      refine lv_if_le (tgt := 88) hx hb dX12_clause_83 (by decide) (fun c9 => absurd c9 (by decide)) (fun _ => ?_)
      refine lv_iconst (v := 0) hx hb dX12_clause_86 (by decide) ?_
      refine W.widen (k := 0) (n := 0) (by decide +kernel) (by decide +kernel) ?_
      have e9 : fT (fT vi 0 1) 146 (nI cl) = fT vi 0 1 := Eq.trans (congrArg (fT _ 146) (show nI cl = vi 146 from (by first | with_reducible rfl | with_reducible assumption | (symm; with_reducible assumption) | rfl | assumption | (symm; assumption) | (subst_vars; rfl)))) (id_1 rfl)
      have hP := wr_Pi e9 hP
      have hD := wr_Di e9 hD
      clear e9
      have e9 : fT (fT (fT vF 92 (vF 92)) 93 (vF 93)) 94 (vF 94) = vF := (fT_id _ _ ((fT_ne _ _ (Nat.ne_of_beq_eq_false rfl)).trans (fT_ne _ _ (Nat.ne_of_beq_eq_false rfl)))).trans ((fT_id _ _ (fT_ne _ _ (Nat.ne_of_beq_eq_false rfl))).trans (fT_id _ _ (rfl)))
      have hP := wr_PF e9 hP
      have hD := wr_DF e9 hD
      clear e9
      exact W.iret (v := 0) hx hb hr (fun t9_ ht hW => ⟨⟨0, (1, cl, (vF 92), (vF 93), (vF 94)), rfl, by (try dsimp only); exact Or.inl (⟨by omega, rfl, by omega, rfl⟩), by rw [ht]; exact hP, hD⟩, hS.F ht⟩) hS.2.2 dX12_clause_87
theorem dX12_unsay_0 : decode cX12_unsay 0 = .ok (.aload_n 0, 1) := dk_42 (by decide +kernel)
theorem dX12_unsay_1 : decode cX12_unsay 1 = .ok (.iconst 0, 1) := dk_3 (by decide +kernel)
theorem dX12_unsay_2 : decode cX12_unsay 2 = .ok (.putfield 348, 3) := dk_181 (by decide +kernel)
theorem dX12_unsay_5 : decode cX12_unsay 5 = .ok (.aload_n 0, 1) := dk_42 (by decide +kernel)
theorem dX12_unsay_6 : decode cX12_unsay 6 = .ok (.getfield 1051, 3) := dk_180 (by decide +kernel)
theorem dX12_unsay_9 : decode cX12_unsay 9 = .ok (.ifCond .ne 5, 3) := dk_154 (by decide +kernel)
theorem dX12_unsay_12 : decode cX12_unsay 12 = .ok (.iconst 0, 1) := dk_3 (by decide +kernel)
theorem dX12_unsay_13 : decode cX12_unsay 13 = .ok (.ireturn, 1) := dk_172 (by decide +kernel)
theorem dX12_unsay_14 : decode cX12_unsay 14 = .ok (.aload_n 0, 1) := dk_42 (by decide +kernel)
theorem dX12_unsay_15 : decode cX12_unsay 15 = .ok (.dup, 1) := dk_89 (by decide +kernel)
theorem dX12_unsay_16 : decode cX12_unsay 16 = .ok (.getfield 1051, 3) := dk_180 (by decide +kernel)
theorem dX12_unsay_19 : decode cX12_unsay 19 = .ok (.iconst 1, 1) := dk_4 (by decide +kernel)
theorem dX12_unsay_20 : decode cX12_unsay 20 = .ok (.isub, 1) := dk_100 (by decide +kernel)
theorem dX12_unsay_21 : decode cX12_unsay 21 = .ok (.putfield 1051, 3) := dk_181 (by decide +kernel)
theorem dX12_unsay_24 : decode cX12_unsay 24 = .ok (.iconst 1, 1) := dk_4 (by decide +kernel)
theorem dX12_unsay_25 : decode cX12_unsay 25 = .ok (.ireturn, 1) := dk_172 (by decide +kernel)
def wsRX12_unsay : List Cond := .code yX12_unsay cX12_unsay 1 (some .boolean) :: ([.fieldLink RX12 348 "OptimaWorksModel" "thrown" "I", .fieldLink RX12 1051 "OptimaWorksModel" "clauses" "I"] ++ wsX120)
theorem iwsRX12_unsay_in12 : ∀ w ∈ wsX120, w ∈ wsRX12_unsay := fun _ h => List.mem_cons_of_mem _ (List.mem_append_right _ h)
theorem gdwsRX12_unsay : wsRX12_unsay.all goodWord = true := gdC rfl (gdA (by decide +kernel : ([.fieldLink RX12 348 "OptimaWorksModel" "thrown" "I", .fieldLink RX12 1051 "OptimaWorksModel" "clauses" "I"] : List Cond).all goodWord = true) gdwsX120)
theorem hm_r_X12_unsay_0 : (.fieldLink RX12 1051 "OptimaWorksModel" "clauses" "I" : Cond) ∈ wsRX12_unsay := by decide +kernel
set_option maxHeartbeats 4000000 in
set_option maxRecDepth 100000 in
/-- unsay() -/
theorem r_X12_unsay (l : Launch) (dC : Nat → ClassId) (dI : Nat → Nat → Nat) (a : Nat → Nat) (k : Nat → ClassId) (h0 : Nat) (vi : Nat → Int32) (vj : Nat → Int64) (vF : Nat → Nat → Int32) (vG : Nat → Nat → Int64) (cl : Nat) (hcl : vi 146 = nI cl) (hcl24 : cl ≤ 24) (sz : Nat) : Met l yX12_unsay wsRX12_unsay ({ frames := 0, cells := 0, slots := 0, locals := 0 }) (va_Pc [.ref h0] (fun U => U.heap.size = sz ∧ va_P (dC, dI) vwCl (WR a k h0 vi vj vF vG) U.heap ∧ va_K (dC, dI) vwCl (tX12 k) U ∧ va_D (fun _ => True) (WR a k h0 vi vj vF vG))) (va_Qi (fun (r : Int32) (u : Nat) => ((u ≤ 24) ∧ (cl = 0 ∧ u = 0) ∧ (r = 0)) ∨ ((u ≤ 24) ∧ (0 < cl ∧ u + 1 = cl) ∧ (r = 1))) (fun (u : Nat) t => va_P (dC, dI) vwCl (WR a k h0 (fT (fT vi 0 0) 146 (nI u)) vj vF vG) t.heap ∧ va_D (va_A (WR a k h0 vi vj vF vG) sz) (WR a k h0 (fT (fT vi 0 0) 146 (nI u)) vj vF vG)) (va_A (WR a k h0 vi vj vF vG) sz)) 0 0 (va_A (WR a k h0 vi vj vF vG) sz) := by
  refine Met.ofW (cc := cX12_unsay) (maxL := 1) (ret := (some .boolean)) (by decide) rfl ?_
  intro p e s m args below meth c s₁ B hml hv
  obtain ⟨rfl, hsz, hP, hK, hD0⟩ := hv
  have hx := B.exec
  have hb := B.bytes
  have hr := B.returns
  have hts := atoms_spec (ws := wsRX12_unsay) B.pre
  have hown : s.vm.findClass RX12 = some m.cls := findClass_of_methodNamed B.named
  have hlocks := B.notSynchronized
  subst hsz
  have hD := hD0.self (sz := s.heap.size)
  generalize hAe : va_A (WR a k h0 vi vj vF vG) s.heap.size = A at hD ⊢
  have hA : ∀ q : Nat, s.heap.size ≤ q → A q := fun q h => by rw [← hAe]; exact Or.inr h
  have hS : va_S A s.heap s.heap [] := va_S.rf
  have hl := lv_entry ([.ref h0]) (n := 1) (Nat.le_of_ble_eq_true rfl)
  rw [lg_entry_eq]
  generalize (lg_sl ([.ref h0]) ++ List.replicate (1 - (lg_sl ([.ref h0])).length) Slot.unset).toArray = ls at hl ⊢
  have hl : lv_has ls 1 [(0, .ref h0)] := hl
  refine lv_aload_n hx hb dX12_unsay_0 rfl (lv_at hl 0 rfl) ?_
  refine lv_iconst (v := 0) hx hb dX12_unsay_1 (by decide) ?_
  refine va_put (D := (dC, dI)) (ci := 12) (v := .int 0) (ty := .int) (C := RX12) (T := TX12) (N := 163) (fs := fM (vS a vi vj)) hx hb hts iwsRX12_unsay_in12 tyX12 tyX12_ok nmX12 hown hK hP hD hS 0 rfl rfl 0 (by decide) (hts (.fieldLink RX12 348 "OptimaWorksModel" "thrown" "I") (by decide +kernel)) (fun _ h9 => h9) rfl (by decide +kernel) rfl rfl (Nat.le_of_ble_eq_true rfl) dX12_unsay_2 (fun H locs hP hD hS => ?_)
  have hP : va_P (dC, dI) vwCl (WR a k h0 (fT vi 0 0) vj vF vG) H := fz_w (WR_i 0 _ rfl) hP
  have hD : va_D A (WR a k h0 (fT vi 0 0) vj vF vG) := fz_wD (WR_i 0 _ rfl) hD
  refine lv_aload_n hx hb dX12_unsay_5 rfl (lv_at hl 0 rfl) ?_
  refine va_get (D := (dC, dI)) (ci := 12) (v := .int (vi 146)) (C := RX12) (T := TX12) (N := 163) (fs := fM (vS a (fT vi 0 0) vj)) hx hb hts iwsRX12_unsay_in12 hown hK hP 0 rfl rfl 146 (by decide) (hts _ hm_r_X12_unsay_0) (fun _ h9 => h9) rfl dX12_unsay_6 ?_
  refine lv_topi (fun y1 hy1 => ?_)
  obtain rfl : (nI cl) = y1 := (hy1.trans (hcl)).symm
  refine lv_if_ne (tgt := 14) hx hb dX12_unsay_9 (by decide) (fun c_9 => ?_) (fun c_9 => ?_)
  · have t_9 : ((cl : Nat) : Int) ≠ 0 := toI_ne c_9 (nI_toInt (by omega)) (by decide)
    refine lv_aload_n hx hb dX12_unsay_14 rfl (lv_at hl 0 rfl) ?_
    refine lv_dup hx hb dX12_unsay_15 rfl ?_
    refine va_get (D := (dC, dI)) (ci := 12) (v := .int (vi 146)) (C := RX12) (T := TX12) (N := 163) (fs := fM (vS a (fT vi 0 0) vj)) hx hb hts iwsRX12_unsay_in12 hown hK hP 0 rfl rfl 146 (by decide) (hts _ hm_r_X12_unsay_0) (fun _ h9 => h9) rfl dX12_unsay_16 ?_
    refine lv_topi (fun y2 hy2 => ?_)
    obtain rfl : (nI cl) = y2 := (hy2.trans (hcl)).symm
    refine lv_iconst (v := 1) hx hb dX12_unsay_19 (by decide) ?_
    refine lv_isub hx hb dX12_unsay_20 ?_
    refine lv_topi (fun y3 hy3 => ?_)
    obtain rfl : (nI (cl - 1)) = y3 := (hy3.trans (pk_sub (a := cl) (b := 1) (by omega))).symm
    refine va_put (D := (dC, dI)) (ci := 12) (v := .int (nI (cl - 1))) (ty := .int) (C := RX12) (T := TX12) (N := 163) (fs := fM (vS a (fT vi 0 0) vj)) hx hb hts iwsRX12_unsay_in12 tyX12 tyX12_ok nmX12 hown hK hP hD hS 0 rfl rfl 146 (by decide) (hts _ hm_r_X12_unsay_0) (fun _ h9 => h9) rfl (by decide +kernel) rfl rfl (Nat.le_of_ble_eq_true rfl) dX12_unsay_21 (fun H locs hP hD hS => ?_)
    have hP : va_P (dC, dI) vwCl (WR a k h0 (fT (fT vi 0 0) 146 (nI (cl - 1))) vj vF vG) H := fz_w (WR_i 146 _ rfl) hP
    have hD : va_D A (WR a k h0 (fT (fT vi 0 0) 146 (nI (cl - 1))) vj vF vG) := fz_wD (WR_i 146 _ rfl) hD
    refine lv_iconst (v := 1) hx hb dX12_unsay_24 (by decide) ?_
    refine W.widen (k := 0) (n := 0) (by decide +kernel) (by decide +kernel) ?_
    exact W.zret (v := 1) hx hb hr rfl (fun t9_ ht hW => ⟨⟨1, (cl - 1), rfl, by (try dsimp only); exact Or.inr ⟨by omega, by omega, rfl⟩, by rw [ht]; exact hP, hD⟩, hS.F ht⟩) hS.2.2 dX12_unsay_25
  · have t_9 : ((cl : Nat) : Int) = 0 := toI_nne c_9 (nI_toInt (by omega)) (by decide)
    refine lv_iconst (v := 0) hx hb dX12_unsay_12 (by decide) ?_
    refine W.widen (k := 0) (n := 0) (by decide +kernel) (by decide +kernel) ?_
    have e9 : fT (fT vi 0 0) 146 (nI cl) = fT vi 0 0 := Eq.trans (congrArg (fT _ 146) (show nI cl = vi 146 from (by first | with_reducible rfl | with_reducible assumption | (symm; with_reducible assumption) | rfl | assumption | (symm; assumption) | (subst_vars; rfl)))) (id_1 rfl)
    have hP := wr_Pi e9 hP
    have hD := wr_Di e9 hD
    clear e9
    exact W.zret (v := 0) hx hb hr rfl (fun t9_ ht hW => ⟨⟨0, cl, rfl, by (try dsimp only); exact Or.inl ⟨by omega, by omega, rfl⟩, by rw [ht]; exact hP, hD⟩, hS.F ht⟩) hS.2.2 dX12_unsay_13
theorem dX12_keeps_0 : decode cX12_keeps 0 = .ok (.aload_n 0, 1) := dk_42 (by decide +kernel)
theorem dX12_keeps_1 : decode cX12_keeps 1 = .ok (.getfield 303, 3) := dk_180 (by decide +kernel)
theorem dX12_keeps_4 : decode cX12_keeps 4 = .ok (.iload_n 1, 1) := dk_27 (by decide +kernel)
theorem dX12_keeps_5 : decode cX12_keeps 5 = .ok (.iaload, 1) := dk_46 (by decide +kernel)
theorem dX12_keeps_6 : decode cX12_keeps 6 = .ok (.iload_n 2, 1) := dk_28 (by decide +kernel)
theorem dX12_keeps_7 : decode cX12_keeps 7 = .ok (.iand, 1) := dk_126 (by decide +kernel)
theorem dX12_keeps_8 : decode cX12_keeps 8 = .ok (.ifCond .ne 16, 3) := dk_154 (by decide +kernel)
theorem dX12_keeps_11 : decode cX12_keeps 11 = .ok (.aload_n 0, 1) := dk_42 (by decide +kernel)
theorem dX12_keeps_12 : decode cX12_keeps 12 = .ok (.getfield 306, 3) := dk_180 (by decide +kernel)
theorem dX12_keeps_15 : decode cX12_keeps 15 = .ok (.iload_n 1, 1) := dk_27 (by decide +kernel)
theorem dX12_keeps_16 : decode cX12_keeps 16 = .ok (.iaload, 1) := dk_46 (by decide +kernel)
theorem dX12_keeps_17 : decode cX12_keeps 17 = .ok (.iload_n 2, 1) := dk_28 (by decide +kernel)
theorem dX12_keeps_18 : decode cX12_keeps 18 = .ok (.iconst (-1), 1) := dk_2 (by decide +kernel)
theorem dX12_keeps_19 : decode cX12_keeps 19 = .ok (.ixor, 1) := dk_130 (by decide +kernel)
theorem dX12_keeps_20 : decode cX12_keeps 20 = .ok (.iand, 1) := dk_126 (by decide +kernel)
theorem dX12_keeps_21 : decode cX12_keeps 21 = .ok (.ifCond .eq 7, 3) := dk_153 (by decide +kernel)
theorem dX12_keeps_24 : decode cX12_keeps 24 = .ok (.iconst 1, 1) := dk_4 (by decide +kernel)
theorem dX12_keeps_25 : decode cX12_keeps 25 = .ok (.goto 4, 3) := dk_167 (by decide +kernel)
theorem dX12_keeps_28 : decode cX12_keeps 28 = .ok (.iconst 0, 1) := dk_3 (by decide +kernel)
theorem dX12_keeps_29 : decode cX12_keeps 29 = .ok (.ireturn, 1) := dk_172 (by decide +kernel)
def wsRX12_keeps : List Cond := .code yX12_keeps cX12_keeps 3 (some .boolean) :: ([.fieldLink RX12 303 "OptimaWorksModel" "wants" "[I", .fieldLink RX12 306 "OptimaWorksModel" "wantsNot" "[I"] ++ wsX120)
theorem iwsRX12_keeps_in12 : ∀ w ∈ wsX120, w ∈ wsRX12_keeps := fun _ h => List.mem_cons_of_mem _ (List.mem_append_right _ h)
theorem gdwsRX12_keeps : wsRX12_keeps.all goodWord = true := gdC rfl (gdA (by decide +kernel : ([.fieldLink RX12 303 "OptimaWorksModel" "wants" "[I", .fieldLink RX12 306 "OptimaWorksModel" "wantsNot" "[I"] : List Cond).all goodWord = true) gdwsX120)
set_option maxHeartbeats 4000000 in
set_option maxRecDepth 100000 in
/-- keeps(c, truths) -/
theorem r_X12_keeps (l : Launch) (dC : Nat → ClassId) (dI : Nat → Nat → Nat) (a : Nat → Nat) (k : Nat → ClassId) (h0 : Nat) (vi : Nat → Int32) (vj : Nat → Int64) (vF : Nat → Nat → Int32) (vG : Nat → Nat → Int64) (cn : Nat) (tI : Int32) (hcn : cn < 24) (sz : Nat) : Met l yX12_keeps wsRX12_keeps ({ frames := 0, cells := 0, slots := 0, locals := 0 }) (va_Pc [.ref h0, .int (nI cn), .int tI] (fun U => U.heap.size = sz ∧ va_P (dC, dI) vwCl (WR a k h0 vi vj vF vG) U.heap ∧ va_K (dC, dI) vwCl (tX12 k) U ∧ va_D (fun _ => True) (WR a k h0 vi vj vF vG))) (va_Qi (fun (r : Int32) (u : Unit) => (r = 1 ∧ (¬ ((vF 92 cn &&& tI) = 0 ∧ (vF 93 cn &&& (tI ^^^ (-1))) = 0))) ∨ (r = 0 ∧ (((vF 92 cn &&& tI) = 0 ∧ (vF 93 cn &&& (tI ^^^ (-1))) = 0)))) (fun (u : Unit) t => va_P (dC, dI) vwCl (WR a k h0 vi vj vF vG) t.heap ∧ va_D (va_A (WR a k h0 vi vj vF vG) sz) (WR a k h0 vi vj vF vG)) (va_A (WR a k h0 vi vj vF vG) sz)) 0 0 (va_A (WR a k h0 vi vj vF vG) sz) := by
  refine Met.ofW (cc := cX12_keeps) (maxL := 3) (ret := (some .boolean)) (by decide) rfl ?_
  intro p e s m args below meth c s₁ B hml hv
  obtain ⟨rfl, hsz, hP, hK, hD0⟩ := hv
  have hx := B.exec
  have hb := B.bytes
  have hr := B.returns
  have hts := atoms_spec (ws := wsRX12_keeps) B.pre
  have hown : s.vm.findClass RX12 = some m.cls := findClass_of_methodNamed B.named
  have hlocks := B.notSynchronized
  subst hsz
  have hD := hD0.self (sz := s.heap.size)
  generalize hAe : va_A (WR a k h0 vi vj vF vG) s.heap.size = A at hD ⊢
  have hA : ∀ q : Nat, s.heap.size ≤ q → A q := fun q h => by rw [← hAe]; exact Or.inr h
  have hS : va_S A s.heap s.heap [] := va_S.rf
  have hl := lv_entry ([.ref h0, .int (nI cn), .int tI]) (n := 3) (Nat.le_of_ble_eq_true rfl)
  rw [lg_entry_eq]
  generalize (lg_sl ([.ref h0, .int (nI cn), .int tI]) ++ List.replicate (3 - (lg_sl ([.ref h0, .int (nI cn), .int tI])).length) Slot.unset).toArray = ls at hl ⊢
  have hl : lv_has ls 3 [(0, .ref h0), (1, .int (nI cn)), (2, .int tI)] := hl
  refine lv_aload_n hx hb dX12_keeps_0 rfl (lv_at hl 0 rfl) ?_
  refine va_get (D := (dC, dI)) (ci := 12) (v := .ref (a 92)) (C := RX12) (T := TX12) (N := 163) (fs := fM (vS a vi vj)) hx hb hts iwsRX12_keeps_in12 hown hK hP 0 rfl rfl 147 (by decide) (hts (.fieldLink RX12 303 "OptimaWorksModel" "wants" "[I") (by decide +kernel)) (fun _ h9 => h9) rfl dX12_keeps_1 ?_
  refine lv_iload_n hx hb dX12_keeps_4 rfl (lv_at hl 1 rfl) ?_
  refine va_iald (cA := k 92) (n := 24) (f := (vF 92)) hx hb hK hP 93 92 (WR_get 92 (by decide)) (TR_get 92 (by decide)) (vp_in_nI (show cn < 24 by omega) (by omega)) dX12_keeps_5 ?_
  refine lv_topi (fun y1 hy1 => ?_)
  obtain rfl : ((vF 92) cn) = y1 := (hy1.trans (by rw [nI_clamp (by omega)])).symm
  refine lv_iload_n hx hb dX12_keeps_6 rfl (lv_at hl 2 rfl) ?_
  refine lv_iand hx hb dX12_keeps_7 ?_
  refine lv_if_ne (tgt := 24) hx hb dX12_keeps_8 (by decide) (fun c_8 => ?_) (fun c_8 => ?_)
  · have t_8 : ((((vF 92) cn) &&& tI)).toInt ≠ 0 := toI_ne c_8 rfl (by decide)
    refine lv_iconst (v := 1) hx hb dX12_keeps_24 (by decide) ?_
    refine lv_goto (tgt := 29) hx hb dX12_keeps_25 (by decide) ?_
    refine W.widen (k := 0) (n := 0) (by decide +kernel) (by decide +kernel) ?_
    exact W.zret (v := 1) hx hb hr rfl (fun t9_ ht hW => ⟨⟨1, (), rfl, by (try dsimp only); exact Or.inl ⟨rfl, fun h9 => c_8 h9.1⟩, by rw [ht]; exact hP, hD⟩, hS.F ht⟩) hS.2.2 dX12_keeps_29
  · have t_8 : ((((vF 92) cn) &&& tI)).toInt = 0 := toI_nne c_8 rfl (by decide)
    refine lv_aload_n hx hb dX12_keeps_11 rfl (lv_at hl 0 rfl) ?_
    refine va_get (D := (dC, dI)) (ci := 12) (v := .ref (a 93)) (C := RX12) (T := TX12) (N := 163) (fs := fM (vS a vi vj)) hx hb hts iwsRX12_keeps_in12 hown hK hP 0 rfl rfl 148 (by decide) (hts (.fieldLink RX12 306 "OptimaWorksModel" "wantsNot" "[I") (by decide +kernel)) (fun _ h9 => h9) rfl dX12_keeps_12 ?_
    refine lv_iload_n hx hb dX12_keeps_15 rfl (lv_at hl 1 rfl) ?_
    refine va_iald (cA := k 93) (n := 24) (f := (vF 93)) hx hb hK hP 94 93 (WR_get 93 (by decide)) (TR_get 93 (by decide)) (vp_in_nI (show cn < 24 by omega) (by omega)) dX12_keeps_16 ?_
    refine lv_topi (fun y2 hy2 => ?_)
    obtain rfl : ((vF 93) cn) = y2 := (hy2.trans (by rw [nI_clamp (by omega)])).symm
    refine lv_iload_n hx hb dX12_keeps_17 rfl (lv_at hl 2 rfl) ?_
    refine lv_iconst (v := (-1)) hx hb dX12_keeps_18 (by decide) ?_
    refine lv_ixor hx hb dX12_keeps_19 ?_
    refine lv_iand hx hb dX12_keeps_20 ?_
    refine lv_if_eq (tgt := 28) hx hb dX12_keeps_21 (by decide) (fun c_21 => ?_) (fun c_21 => ?_)
    · have t_21 : ((((vF 93) cn) &&& (tI ^^^ (-1)))).toInt = 0 := toI_eq c_21 rfl (by decide)
      refine lv_iconst (v := 0) hx hb dX12_keeps_28 (by decide) ?_
      refine W.widen (k := 0) (n := 0) (by decide +kernel) (by decide +kernel) ?_
      exact W.zret (v := 0) hx hb hr rfl (fun t9_ ht hW => ⟨⟨0, (), rfl, by (try dsimp only); exact Or.inr ⟨rfl, c_8, c_21⟩, by rw [ht]; exact hP, hD⟩, hS.F ht⟩) hS.2.2 dX12_keeps_29
    · have t_21 : ¬ ((((vF 93) cn) &&& (tI ^^^ (-1)))).toInt = 0 := toI_neq c_21 rfl (by decide)
      refine lv_iconst (v := 1) hx hb dX12_keeps_24 (by decide) ?_
      refine lv_goto (tgt := 29) hx hb dX12_keeps_25 (by decide) ?_
      refine W.widen (k := 0) (n := 0) (by decide +kernel) (by decide +kernel) ?_
      exact W.zret (v := 1) hx hb hr rfl (fun t9_ ht hW => ⟨⟨1, (), rfl, by (try dsimp only); exact Or.inl ⟨rfl, fun h9 => c_21 h9.2⟩, by rw [ht]; exact hP, hD⟩, hS.F ht⟩) hS.2.2 dX12_keeps_29
theorem dX12_cost_0 : decode cX12_cost 0 = .ok (.iconst 0, 1) := dk_3 (by decide +kernel)
theorem dX12_cost_1 : decode cX12_cost 1 = .ok (.istore_n 2, 1) := dk_61 (by decide +kernel)
theorem dX12_cost_2 : decode cX12_cost 2 = .ok (.iconst 0, 1) := dk_3 (by decide +kernel)
theorem dX12_cost_3 : decode cX12_cost 3 = .ok (.istore_n 3, 1) := dk_62 (by decide +kernel)
theorem dX12_cost_4 : decode cX12_cost 4 = .ok (.iload_n 3, 1) := dk_29 (by decide +kernel)
theorem dX12_cost_5 : decode cX12_cost 5 = .ok (.aload_n 0, 1) := dk_42 (by decide +kernel)
theorem dX12_cost_6 : decode cX12_cost 6 = .ok (.getfield 1051, 3) := dk_180 (by decide +kernel)
theorem dX12_cost_9 : decode cX12_cost 9 = .ok (.if_icmp .ge 41, 3) := dk_162 (by decide +kernel)
theorem dX12_cost_12 : decode cX12_cost 12 = .ok (.aload_n 0, 1) := dk_42 (by decide +kernel)
theorem dX12_cost_13 : decode cX12_cost 13 = .ok (.iload_n 3, 1) := dk_29 (by decide +kernel)
theorem dX12_cost_14 : decode cX12_cost 14 = .ok (.iload_n 1, 1) := dk_27 (by decide +kernel)
theorem dX12_cost_15 : decode cX12_cost 15 = .ok (.invokevirtual 1054, 3) := dk_182 (by decide +kernel)
theorem dX12_cost_18 : decode cX12_cost 18 = .ok (.ifCond .eq 6, 3) := dk_153 (by decide +kernel)
theorem dX12_cost_21 : decode cX12_cost 21 = .ok (.goto 23, 3) := dk_167 (by decide +kernel)
theorem dX12_cost_24 : decode cX12_cost 24 = .ok (.aload_n 0, 1) := dk_42 (by decide +kernel)
theorem dX12_cost_25 : decode cX12_cost 25 = .ok (.getfield 309, 3) := dk_180 (by decide +kernel)
theorem dX12_cost_28 : decode cX12_cost 28 = .ok (.iload_n 3, 1) := dk_29 (by decide +kernel)
theorem dX12_cost_29 : decode cX12_cost 29 = .ok (.iaload, 1) := dk_46 (by decide +kernel)
theorem dX12_cost_30 : decode cX12_cost 30 = .ok (.ifCond .ne 5, 3) := dk_154 (by decide +kernel)
theorem dX12_cost_33 : decode cX12_cost 33 = .ok (.iconst (-1), 1) := dk_2 (by decide +kernel)
theorem dX12_cost_34 : decode cX12_cost 34 = .ok (.ireturn, 1) := dk_172 (by decide +kernel)
theorem dX12_cost_35 : decode cX12_cost 35 = .ok (.iload_n 2, 1) := dk_28 (by decide +kernel)
theorem dX12_cost_36 : decode cX12_cost 36 = .ok (.aload_n 0, 1) := dk_42 (by decide +kernel)
theorem dX12_cost_37 : decode cX12_cost 37 = .ok (.getfield 309, 3) := dk_180 (by decide +kernel)
theorem dX12_cost_40 : decode cX12_cost 40 = .ok (.iload_n 3, 1) := dk_29 (by decide +kernel)
theorem dX12_cost_41 : decode cX12_cost 41 = .ok (.iaload, 1) := dk_46 (by decide +kernel)
theorem dX12_cost_42 : decode cX12_cost 42 = .ok (.iadd, 1) := dk_96 (by decide +kernel)
theorem dX12_cost_43 : decode cX12_cost 43 = .ok (.istore_n 2, 1) := dk_61 (by decide +kernel)
theorem dX12_cost_44 : decode cX12_cost 44 = .ok (.iinc 3 1, 3) := dk_132 (by decide +kernel)
theorem dX12_cost_47 : decode cX12_cost 47 = .ok (.goto (-43), 3) := dk_167 (by decide +kernel)
theorem dX12_cost_50 : decode cX12_cost 50 = .ok (.iload_n 2, 1) := dk_28 (by decide +kernel)
theorem dX12_cost_51 : decode cX12_cost 51 = .ok (.ireturn, 1) := dk_172 (by decide +kernel)
def wsRX12_cost : List Cond := .code yX12_cost cX12_cost 4 (some .int) :: ([.fieldLink RX12 1051 "OptimaWorksModel" "clauses" "I", .fieldLink RX12 309 "OptimaWorksModel" "weights" "[I"] ++ wsX120 ++ (wsV RX12 1054 RX12 yX12_keeps wsRX12_keeps))
theorem iwsRX12_cost_in12 : ∀ w ∈ wsX120, w ∈ wsRX12_cost := fun _ h => List.mem_cons_of_mem _ (List.mem_append_left _ (List.mem_append_right _ h))
theorem gwsRX12_cost_0 : GoodIn wsRX12_cost (wsV RX12 1054 RX12 yX12_keeps wsRX12_keeps) := goodIn_sub (fun _ h => List.mem_cons_of_mem _ (List.mem_append_right _ h)) (gdV (by decide +kernel) gdwsRX12_keeps)
theorem gdwsRX12_cost : wsRX12_cost.all goodWord = true := gdC rfl (gdA (gdA (by decide +kernel : ([.fieldLink RX12 1051 "OptimaWorksModel" "clauses" "I", .fieldLink RX12 309 "OptimaWorksModel" "weights" "[I"] : List Cond).all goodWord = true) gdwsX120) (gdV (by decide +kernel) gdwsRX12_keeps))
theorem hm_r_X12_cost_0 : (.fieldLink RX12 309 "OptimaWorksModel" "weights" "[I" : Cond) ∈ wsRX12_cost := by decide +kernel
set_option maxHeartbeats 4000000 in
set_option maxRecDepth 100000 in
/-- cost(truths) -/
theorem r_X12_cost (l : Launch) (dC : Nat → ClassId) (dI : Nat → Nat → Nat) (a : Nat → Nat) (k : Nat → ClassId) (h0 : Nat) (vi : Nat → Int32) (vj : Nat → Int64) (vF : Nat → Nat → Int32) (vG : Nat → Nat → Int64) (tk : Nat) (cl : Nat) (hcl : vi 146 = nI cl) (hcl24 : cl ≤ 24) (hCv : cVal (((cl : Nat) : Int), vF 92, vF 93, vF 94)) (sz : Nat) : Met l yX12_cost wsRX12_cost ({ frames := 1, cells := 0, slots := 0, locals := 22 }) (va_Pc [.ref h0, .int (nI tk)] (fun U => U.heap.size = sz ∧ va_P (dC, dI) vwCl (WR a k h0 vi vj vF vG) U.heap ∧ va_K (dC, dI) vwCl (tX12 k) U ∧ va_D (fun _ => True) (WR a k h0 vi vj vF vG))) (va_Qi (fun (r : Int32) (u : Unit) => (r = (-1) ∧ (¬ cMust (((cl : Nat) : Int), vF 92, vF 93, vF 94) tk cl)) ∨ ((cMust (((cl : Nat) : Int), vF 92, vF 93, vF 94) tk cl) ∧ (r.toInt = cSum (((cl : Nat) : Int), vF 92, vF 93, vF 94) tk cl))) (fun (u : Unit) t => va_P (dC, dI) vwCl (WR a k h0 vi vj vF vG) t.heap ∧ va_D (va_A (WR a k h0 vi vj vF vG) sz) (WR a k h0 vi vj vF vG)) (va_A (WR a k h0 vi vj vF vG) sz)) 0 0 (va_A (WR a k h0 vi vj vF vG) sz) := by
  refine Met.ofW (cc := cX12_cost) (maxL := 4) (ret := (some .int)) (by decide) rfl ?_
  intro p e s m args below meth c s₁ B hml hv
  obtain ⟨rfl, hsz, hP, hK, hD0⟩ := hv
  have hx := B.exec
  have hb := B.bytes
  have hr := B.returns
  have hts := atoms_spec (ws := wsRX12_cost) B.pre
  have hown : s.vm.findClass RX12 = some m.cls := findClass_of_methodNamed B.named
  have hlocks := B.notSynchronized
  subst hsz
  have hD := hD0.self (sz := s.heap.size)
  generalize hAe : va_A (WR a k h0 vi vj vF vG) s.heap.size = A at hD ⊢
  have hA : ∀ q : Nat, s.heap.size ≤ q → A q := fun q h => by rw [← hAe]; exact Or.inr h
  have hS : va_S A s.heap s.heap [] := va_S.rf
  have hl := lv_entry ([.ref h0, .int (nI tk)]) (n := 4) (Nat.le_of_ble_eq_true rfl)
  rw [lg_entry_eq]
  generalize (lg_sl ([.ref h0, .int (nI tk)]) ++ List.replicate (4 - (lg_sl ([.ref h0, .int (nI tk)])).length) Slot.unset).toArray = ls at hl ⊢
  have hl : lv_has ls 4 [(0, .ref h0), (1, .int (nI tk))] := hl
  refine lv_iconst (v := 0) hx hb dX12_cost_0 (by decide) ?_
  refine lv_istore_n hx hb dX12_cost_1 rfl hl (by decide) rfl (fun ls (hl : lv_has ls _ ([(2, .int 0), (0, .ref h0), (1, .int (nI tk))])) => ?_)
  refine lv_iconst (v := 0) hx hb dX12_cost_2 (by decide) ?_
  refine lv_istore_n hx hb dX12_cost_3 rfl hl (by decide) rfl (fun ls (hl : lv_has ls _ ([(3, .int 0), (2, .int 0), (0, .ref h0), (1, .int (nI tk))])) => ?_)
  have hl : lv_has _ _ ([(0, .ref h0), (1, .int (nI tk)), (2, .int 0), (3, .int (nI 0))]) := lv_sub hl [2, 3, 1, 0] rfl
  refine (fun (loop : ∀ (n9 : Nat) (k5 : Nat) (nq : Int32) (H : Heap) (locs : List Loc) (ls : Array Slot), (k5 ≤ cl) → ((nq).toInt = cSum (((cl : Nat) : Int), vF 92, vF 93, vF 94) tk k5) → (cMust (((cl : Nat) : Int), vF 92, vF 93, vF 94) tk k5) →  (cl < k5 + n9) → va_P (dC, dI) vwCl (WR a k h0 vi vj vF vG) H → va_D A (WR a k h0 vi vj vF vG) → va_S A s.heap H locs → lv_has ls 4 [(0, .ref h0), (1, .int (nI tk)), (2, .int nq), (3, .int (nI k5))] → W p l e _ s m _ below meth c H locs 0 0 _ (F0 m 4 ls [])) => loop (cl + 1) 0 0 _ _ _ (by omega) (by show (0 : Int32).toInt = 0; decide) (fun i hi => absurd hi (Nat.not_lt_zero i)) (by omega) hP hD hS hl) ?_
  intro n9
  induction n9 with
  | zero => intro k5 nq H locs ls hk5 hCs hCm hf9; exact False.elim (by omega)
  | succ n9 ih4 =>
    intro k5 nq H locs ls hk5 hCs hCm hf4 hP hD hS hl
    refine lv_iload_n hx hb dX12_cost_4 rfl (lv_at hl 3 rfl) ?_
    refine lv_aload_n hx hb dX12_cost_5 rfl (lv_at hl 0 rfl) ?_
    refine va_get (D := (dC, dI)) (ci := 12) (v := .int (vi 146)) (C := RX12) (T := TX12) (N := 163) (fs := fM (vS a vi vj)) hx hb hts iwsRX12_cost_in12 hown hK hP 0 rfl rfl 146 (by decide) (hts (.fieldLink RX12 1051 "OptimaWorksModel" "clauses" "I") (by decide +kernel)) (fun _ h9 => h9) rfl dX12_cost_6 ?_
    refine lv_topi (fun y1 hy1 => ?_)
    obtain rfl : (nI cl) = y1 := (hy1.trans (hcl)).symm
    refine lv_icmp_ge (tgt := 50) hx hb dX12_cost_9 (by decide) (fun c_9 => ?_) (fun c_9 => ?_)
    · have t_9 : ((k5 : Nat) : Int) ≥ ((cl : Nat) : Int) := toI_ge c_9 (nI_toInt (by omega)) (nI_toInt (by omega))
      refine lv_iload_n hx hb dX12_cost_50 rfl (lv_at hl 2 rfl) ?_
      refine W.widen (k := 0) (n := 0) (by decide +kernel) (by decide +kernel) ?_
      exact W.iret (v := nq) hx hb hr (fun t9_ ht hW => ⟨⟨nq, (), rfl, by (try dsimp only); (have e9 : k5 = cl := by omega); subst e9; exact Or.inr ⟨hCm, hCs⟩, by rw [ht]; exact hP, hD⟩, hS.F ht⟩) hS.2.2 dX12_cost_51
    · have t_9 : ¬ ((k5 : Nat) : Int) ≥ ((cl : Nat) : Int) := toI_nge c_9 (nI_toInt (by omega)) (nI_toInt (by omega))
      refine lv_aload_n hx hb dX12_cost_12 rfl (lv_at hl 0 rfl) ?_
      refine lv_iload_n hx hb dX12_cost_13 rfl (lv_at hl 3 rfl) ?_
      refine lv_iload_n hx hb dX12_cost_14 rfl (lv_at hl 1 rfl) ?_
      have hFc := allFree hD hS hA
      refine va_calli (va_runV (As := [.int (nI k5), .int (nI tk)]) (rest := []) ⟨hx, hb, hml, hown, hts⟩ (r_X12_keeps l dC dI a k h0 vi vj vF vG k5 (nI tk) (by first | with_reducible assumption | decide | omega | rfl | assumption) H.size) (cwV 2 hts gwsRX12_cost_0 rfl rfl rfl hd_yX12_keeps_RX12 (by decide +kernel)) (fz_pre (va_recv hK hP (ci := 12) (q0 := 0) rfl rfl) hP hK hD) rfl rfl hl.1 rfl (lv_room (Nat.le_of_ble_eq_true rfl)) dX12_cost_15 (by decide +kernel)) hS (fun q _ h => hFc q h) hFc (fun r15 u t9_ H locs ht hvm hw9 hB9 hz1 hk1 hS => ?_)
      have hP : va_P (dC, dI) vwCl (WR a k h0 vi vj vF vG) H := fz_P ht hB9.1
      have hD := fz_sd hP (hB9.2.weaken (fun _ q _ h => hFc q.1 h)) rfl
      rcases hw9 with ⟨rfl, f15_0⟩ | ⟨rfl, f15_0⟩
      · have f15_0 : ¬ (((vF 92) k5 &&& (nI tk)) = 0 ∧ ((vF 93) k5 &&& ((nI tk) ^^^ (-1))) = 0) := f15_0
        refine lv_if_eq (tgt := 24) hx hb dX12_cost_18 (by decide) (fun c9 => absurd c9 (by decide)) (fun _ => ?_)
        refine lv_goto (tgt := 44) hx hb dX12_cost_21 (by decide) ?_
        refine lv_iinc (v := (nI (k5 + 1))) hx hb dX12_cost_44 hl (k := 3) rfl (nI_add k5 1) (by decide) rfl (fun ls (hl : lv_has ls _ ([(3, .int (nI (k5 + 1))), (0, .ref h0), (1, .int (nI tk)), (2, .int nq)])) => ?_)
        refine lv_goto (tgt := 4) hx hb dX12_cost_47 (by decide) ?_
        have hl : lv_has _ _ ([(0, .ref h0), (1, .int (nI tk)), (2, .int nq), (3, .int (nI (k5 + 1)))]) := lv_sub hl [1, 2, 3, 0] rfl
        exact ih4 (k5 + 1) nq _ _ _ (by omega) ((cSum_no (decide_eq_false f15_0 : kN (((cl : Nat) : Int), vF 92, vF 93, vF 94) k5 tk = false)).symm ▸ hCs) (cMust_no hCm (decide_eq_false f15_0 : kN (((cl : Nat) : Int), vF 92, vF 93, vF 94) k5 tk = false)) (by omega) hP hD hS hl
      · have f15_0 : (((vF 92) k5 &&& (nI tk)) = 0 ∧ ((vF 93) k5 &&& ((nI tk) ^^^ (-1))) = 0) := f15_0
        refine lv_if_eq (tgt := 24) hx hb dX12_cost_18 (by decide) (fun _ => ?_) (fun c9 => absurd (by decide) c9)
        refine lv_aload_n hx hb dX12_cost_24 rfl (lv_at hl 0 rfl) ?_
        refine va_get (D := (dC, dI)) (ci := 12) (v := .ref (a 94)) (C := RX12) (T := TX12) (N := 163) (fs := fM (vS a vi vj)) hx hb hts iwsRX12_cost_in12 hown hK hP 0 rfl rfl 149 (by decide) (hts _ hm_r_X12_cost_0) (fun _ h9 => h9) rfl dX12_cost_25 ?_
        refine lv_iload_n hx hb dX12_cost_28 rfl (lv_at hl 3 rfl) ?_
        refine va_iald (cA := k 94) (n := 24) (f := (vF 94)) hx hb hK hP 95 94 (WR_get 94 (by decide)) (TR_get 94 (by decide)) (vp_in_nI (show k5 < 24 by omega) (by omega)) dX12_cost_29 ?_
        refine lv_topi (fun y2 hy2 => ?_)
        obtain rfl : ((vF 94) k5) = y2 := (hy2.trans (by rw [nI_clamp (by omega)])).symm
        refine lv_if_ne (tgt := 35) hx hb dX12_cost_30 (by decide) (fun c_30 => ?_) (fun c_30 => ?_)
        · have t_30 : (((vF 94) k5)).toInt ≠ 0 := toI_ne c_30 rfl (by decide)
          refine lv_iload_n hx hb dX12_cost_35 rfl (lv_at hl 2 rfl) ?_
          refine lv_aload_n hx hb dX12_cost_36 rfl (lv_at hl 0 rfl) ?_
          refine va_get (D := (dC, dI)) (ci := 12) (v := .ref (a 94)) (C := RX12) (T := TX12) (N := 163) (fs := fM (vS a vi vj)) hx hb hts iwsRX12_cost_in12 hown hK hP 0 rfl rfl 149 (by decide) (hts _ hm_r_X12_cost_0) (fun _ h9 => h9) rfl dX12_cost_37 ?_
          refine lv_iload_n hx hb dX12_cost_40 rfl (lv_at hl 3 rfl) ?_
          refine va_iald (cA := k 94) (n := 24) (f := (vF 94)) hx hb hK hP 95 94 (WR_get 94 (by decide)) (TR_get 94 (by decide)) (vp_in_nI (show k5 < 24 by omega) (by omega)) dX12_cost_41 ?_
          refine lv_topi (fun y3 hy3 => ?_)
          obtain rfl : ((vF 94) k5) = y3 := (hy3.trans (by rw [nI_clamp (by omega)])).symm
          refine lv_iadd hx hb dX12_cost_42 ?_
          refine lv_istore_n hx hb dX12_cost_43 rfl hl (by decide) rfl (fun ls (hl : lv_has ls _ ([(2, .int (nq + ((vF 94) k5))), (0, .ref h0), (1, .int (nI tk)), (3, .int (nI k5))])) => ?_)
          refine lv_iinc (v := (nI (k5 + 1))) hx hb dX12_cost_44 hl (k := 3) rfl (nI_add k5 1) (by decide) rfl (fun ls (hl : lv_has ls _ ([(3, .int (nI (k5 + 1))), (2, .int (nq + ((vF 94) k5))), (0, .ref h0), (1, .int (nI tk))])) => ?_)
          refine lv_goto (tgt := 4) hx hb dX12_cost_47 (by decide) ?_
          have hl : lv_has _ _ ([(0, .ref h0), (1, .int (nI tk)), (2, .int (nq + ((vF 94) k5))), (3, .int (nI (k5 + 1)))]) := lv_sub hl [2, 3, 1, 0] rfl
          exact ih4 (k5 + 1) (nq + ((vF 94) k5)) _ _ _ (by omega) (by have h8 := cSum.bd hCv tk k5 (by dsimp only; omega); have h7 := hCv.2.2 k5 (by dsimp only; omega); have h6 : 0 ≤ (vF 94 k5).toInt ∧ (vF 94 k5).toInt ≤ 1000 := h7; rw [cSum_yes (decide_eq_true f15_0 : kN (((cl : Nat) : Int), vF 92, vF 93, vF 94) k5 tk = true), addB (by omega) (by omega), hCs]) (cMust_yes hCm (show (vF 94 k5).toInt ≠ 0 from t_30)) (by omega) hP hD hS hl
        · have t_30 : (((vF 94) k5)).toInt = 0 := toI_nne c_30 rfl (by decide)
          refine lv_iconst (v := (-1)) hx hb dX12_cost_33 (by decide) ?_
          refine W.widen (k := 0) (n := 0) (by decide +kernel) (by decide +kernel) ?_
          exact W.iret (v := (-1)) hx hb hr (fun t9_ ht hW => ⟨⟨(-1), (), rfl, by (try dsimp only); exact Or.inl ⟨rfl, fun h9 => h9 k5 (by omega) (decide_eq_true f15_0) (show (vF 94 k5).toInt = 0 from by omega)⟩, by rw [ht]; exact hP, hD⟩, hS.F ht⟩) hS.2.2 dX12_cost_34
theorem dX12_models_0 : decode cX12_models 0 = .ok (.iconst 0, 1) := dk_3 (by decide +kernel)
theorem dX12_models_1 : decode cX12_models 1 = .ok (.istore_n 2, 1) := dk_61 (by decide +kernel)
theorem dX12_models_2 : decode cX12_models 2 = .ok (.iconst 0, 1) := dk_3 (by decide +kernel)
theorem dX12_models_3 : decode cX12_models 3 = .ok (.istore_n 3, 1) := dk_62 (by decide +kernel)
theorem dX12_models_4 : decode cX12_models 4 = .ok (.iload_n 3, 1) := dk_29 (by decide +kernel)
theorem dX12_models_5 : decode cX12_models 5 = .ok (.sipush 4096, 3) := dk_17 (by decide +kernel)
theorem dX12_models_8 : decode cX12_models 8 = .ok (.if_icmp .ge 74, 3) := dk_162 (by decide +kernel)
theorem dX12_models_11 : decode cX12_models 11 = .ok (.iconst 1, 1) := dk_4 (by decide +kernel)
theorem dX12_models_12 : decode cX12_models 12 = .ok (.istore 4, 2) := dk_54 (by decide +kernel)
theorem dX12_models_14 : decode cX12_models 14 = .ok (.iconst 0, 1) := dk_3 (by decide +kernel)
theorem dX12_models_15 : decode cX12_models 15 = .ok (.istore 5, 2) := dk_54 (by decide +kernel)
theorem dX12_models_17 : decode cX12_models 17 = .ok (.iload 5, 2) := dk_21 (by decide +kernel)
theorem dX12_models_19 : decode cX12_models 19 = .ok (.aload_n 0, 1) := dk_42 (by decide +kernel)
theorem dX12_models_20 : decode cX12_models 20 = .ok (.getfield 1051, 3) := dk_180 (by decide +kernel)
theorem dX12_models_23 : decode cX12_models 23 = .ok (.if_icmp .ge 40, 3) := dk_162 (by decide +kernel)
theorem dX12_models_26 : decode cX12_models 26 = .ok (.iload 4, 2) := dk_21 (by decide +kernel)
theorem dX12_models_28 : decode cX12_models 28 = .ok (.ifCond .eq 35, 3) := dk_153 (by decide +kernel)
theorem dX12_models_31 : decode cX12_models 31 = .ok (.iload_n 1, 1) := dk_27 (by decide +kernel)
theorem dX12_models_32 : decode cX12_models 32 = .ok (.iload 5, 2) := dk_21 (by decide +kernel)
theorem dX12_models_34 : decode cX12_models 34 = .ok (.ishr, 1) := dk_122 (by decide +kernel)
theorem dX12_models_35 : decode cX12_models 35 = .ok (.iconst 1, 1) := dk_4 (by decide +kernel)
theorem dX12_models_36 : decode cX12_models 36 = .ok (.iand, 1) := dk_126 (by decide +kernel)
theorem dX12_models_37 : decode cX12_models 37 = .ok (.ifCond .eq 13, 3) := dk_153 (by decide +kernel)
theorem dX12_models_40 : decode cX12_models 40 = .ok (.aload_n 0, 1) := dk_42 (by decide +kernel)
theorem dX12_models_41 : decode cX12_models 41 = .ok (.iload 5, 2) := dk_21 (by decide +kernel)
theorem dX12_models_43 : decode cX12_models 43 = .ok (.iload_n 3, 1) := dk_29 (by decide +kernel)
theorem dX12_models_44 : decode cX12_models 44 = .ok (.invokevirtual 1054, 3) := dk_182 (by decide +kernel)
theorem dX12_models_47 : decode cX12_models 47 = .ok (.ifCond .eq 7, 3) := dk_153 (by decide +kernel)
theorem dX12_models_50 : decode cX12_models 50 = .ok (.iconst 1, 1) := dk_4 (by decide +kernel)
theorem dX12_models_51 : decode cX12_models 51 = .ok (.goto 4, 3) := dk_167 (by decide +kernel)
theorem dX12_models_54 : decode cX12_models 54 = .ok (.iconst 0, 1) := dk_3 (by decide +kernel)
theorem dX12_models_55 : decode cX12_models 55 = .ok (.istore 4, 2) := dk_54 (by decide +kernel)
theorem dX12_models_57 : decode cX12_models 57 = .ok (.iinc 5 1, 3) := dk_132 (by decide +kernel)
theorem dX12_models_60 : decode cX12_models 60 = .ok (.goto (-43), 3) := dk_167 (by decide +kernel)
theorem dX12_models_63 : decode cX12_models 63 = .ok (.iload_n 2, 1) := dk_28 (by decide +kernel)
theorem dX12_models_64 : decode cX12_models 64 = .ok (.iload 4, 2) := dk_21 (by decide +kernel)
theorem dX12_models_66 : decode cX12_models 66 = .ok (.ifCond .eq 7, 3) := dk_153 (by decide +kernel)
theorem dX12_models_69 : decode cX12_models 69 = .ok (.iconst 1, 1) := dk_4 (by decide +kernel)
theorem dX12_models_70 : decode cX12_models 70 = .ok (.goto 4, 3) := dk_167 (by decide +kernel)
theorem dX12_models_73 : decode cX12_models 73 = .ok (.iconst 0, 1) := dk_3 (by decide +kernel)
theorem dX12_models_74 : decode cX12_models 74 = .ok (.iadd, 1) := dk_96 (by decide +kernel)
theorem dX12_models_75 : decode cX12_models 75 = .ok (.istore_n 2, 1) := dk_61 (by decide +kernel)
theorem dX12_models_76 : decode cX12_models 76 = .ok (.iinc 3 1, 3) := dk_132 (by decide +kernel)
theorem dX12_models_79 : decode cX12_models 79 = .ok (.goto (-75), 3) := dk_167 (by decide +kernel)
theorem dX12_models_82 : decode cX12_models 82 = .ok (.iload_n 2, 1) := dk_28 (by decide +kernel)
theorem dX12_models_83 : decode cX12_models 83 = .ok (.ireturn, 1) := dk_172 (by decide +kernel)
def wsRX12_models : List Cond := .code yX12_models cX12_models 6 (some .int) :: ([.fieldLink RX12 1051 "OptimaWorksModel" "clauses" "I"] ++ wsX120 ++ (wsV RX12 1054 RX12 yX12_keeps wsRX12_keeps))
theorem iwsRX12_models_in12 : ∀ w ∈ wsX120, w ∈ wsRX12_models := fun _ h => List.mem_cons_of_mem _ (List.mem_append_left _ (List.mem_append_right _ h))
theorem gwsRX12_models_0 : GoodIn wsRX12_models (wsV RX12 1054 RX12 yX12_keeps wsRX12_keeps) := goodIn_sub (fun _ h => List.mem_cons_of_mem _ (List.mem_append_right _ h)) (gdV (by decide +kernel) gdwsRX12_keeps)
theorem gdwsRX12_models : wsRX12_models.all goodWord = true := gdC rfl (gdA (gdA (by decide +kernel : ([.fieldLink RX12 1051 "OptimaWorksModel" "clauses" "I"] : List Cond).all goodWord = true) gdwsX120) (gdV (by decide +kernel) gdwsRX12_keeps))
set_option maxHeartbeats 4000000 in
set_option maxRecDepth 100000 in
/-- models(some) -/
theorem r_X12_models (l : Launch) (dC : Nat → ClassId) (dI : Nat → Nat → Nat) (a : Nat → Nat) (k : Nat → ClassId) (h0 : Nat) (vi : Nat → Int32) (vj : Nat → Int64) (vF : Nat → Nat → Int32) (vG : Nat → Nat → Int64) (sI : Int32) (cl : Nat) (hcl : vi 146 = nI cl) (hcl24 : cl ≤ 24) (sz : Nat) : Met l yX12_models wsRX12_models ({ frames := 1, cells := 0, slots := 0, locals := 22 }) (va_Pc [.ref h0, .int sI] (fun U => U.heap.size = sz ∧ va_P (dC, dI) vwCl (WR a k h0 vi vj vF vG) U.heap ∧ va_K (dC, dI) vwCl (tX12 k) U ∧ va_D (fun _ => True) (WR a k h0 vi vj vF vG))) (va_Qi (fun (r : Int32) (u : Unit) => (r.toInt = ((cMods (((cl : Nat) : Int), vF 92, vF 93, vF 94) sI : Nat) : Int))) (fun (u : Unit) t => va_P (dC, dI) vwCl (WR a k h0 vi vj vF vG) t.heap ∧ va_D (va_A (WR a k h0 vi vj vF vG) sz) (WR a k h0 vi vj vF vG)) (va_A (WR a k h0 vi vj vF vG) sz)) 0 0 (va_A (WR a k h0 vi vj vF vG) sz) := by
  refine Met.ofW (cc := cX12_models) (maxL := 6) (ret := (some .int)) (by decide) rfl ?_
  intro p e s m args below meth c s₁ B hml hv
  obtain ⟨rfl, hsz, hP, hK, hD0⟩ := hv
  have hx := B.exec
  have hb := B.bytes
  have hr := B.returns
  have hts := atoms_spec (ws := wsRX12_models) B.pre
  have hown : s.vm.findClass RX12 = some m.cls := findClass_of_methodNamed B.named
  have hlocks := B.notSynchronized
  subst hsz
  have hD := hD0.self (sz := s.heap.size)
  generalize hAe : va_A (WR a k h0 vi vj vF vG) s.heap.size = A at hD ⊢
  have hA : ∀ q : Nat, s.heap.size ≤ q → A q := fun q h => by rw [← hAe]; exact Or.inr h
  have hS : va_S A s.heap s.heap [] := va_S.rf
  have hl := lv_entry ([.ref h0, .int sI]) (n := 6) (Nat.le_of_ble_eq_true rfl)
  rw [lg_entry_eq]
  generalize (lg_sl ([.ref h0, .int sI]) ++ List.replicate (6 - (lg_sl ([.ref h0, .int sI])).length) Slot.unset).toArray = ls at hl ⊢
  have hl : lv_has ls 6 [(0, .ref h0), (1, .int sI)] := hl
  refine lv_iconst (v := 0) hx hb dX12_models_0 (by decide) ?_
  refine lv_istore_n hx hb dX12_models_1 rfl hl (by decide) rfl (fun ls (hl : lv_has ls _ ([(2, .int 0), (0, .ref h0), (1, .int sI)])) => ?_)
  refine lv_iconst (v := 0) hx hb dX12_models_2 (by decide) ?_
  refine lv_istore_n hx hb dX12_models_3 rfl hl (by decide) rfl (fun ls (hl : lv_has ls _ ([(3, .int 0), (2, .int 0), (0, .ref h0), (1, .int sI)])) => ?_)
  have hl : lv_has _ _ ([(0, .ref h0), (1, .int sI), (2, .int 0), (3, .int (nI 0))]) := lv_sub hl [2, 3, 1, 0] rfl
  refine (fun (loop : ∀ (n9 : Nat) (t5 : Nat) (nq : Int32) (H : Heap) (locs : List Loc) (ls : Array Slot), (t5 ≤ 4096) → ((nq).toInt = ((cntB (fun k => cSat (((cl : Nat) : Int), vF 92, vF 93, vF 94) sI k cl) t5 : Nat) : Int)) →  (4096 < t5 + n9) → va_P (dC, dI) vwCl (WR a k h0 vi vj vF vG) H → va_D A (WR a k h0 vi vj vF vG) → va_S A s.heap H locs → lv_has ls 6 [(0, .ref h0), (1, .int sI), (2, .int nq), (3, .int (nI t5))] → W p l e _ s m _ below meth c H locs 0 0 _ (F0 m 4 ls [])) => loop (4097) 0 0 _ _ _ (by omega) (by show (0 : Int32).toInt = ((0 : Nat) : Int); decide) (by omega) hP hD hS hl) ?_
  intro n9
  induction n9 with
  | zero => intro t5 nq H locs ls ht5 hNq hf9; exact False.elim (by omega)
  | succ n9 ih4 =>
    intro t5 nq H locs ls ht5 hNq hf4 hP hD hS hl
    refine lv_iload_n hx hb dX12_models_4 rfl (lv_at hl 3 rfl) ?_
    refine lv_sipush (v := 4096) hx hb dX12_models_5 (by decide) ?_
    refine lv_icmp_ge (tgt := 82) hx hb dX12_models_8 (by decide) (fun c_8 => ?_) (fun c_8 => ?_)
    · have t_8 : ((t5 : Nat) : Int) ≥ 4096 := toI_ge c_8 (nI_toInt (by omega)) (by decide)
      refine lv_iload_n hx hb dX12_models_82 rfl (lv_at hl 2 rfl) ?_
      refine W.widen (k := 0) (n := 0) (by decide +kernel) (by decide +kernel) ?_
      exact W.iret (v := nq) hx hb hr (fun t9_ ht hW => ⟨⟨nq, (), rfl, by (try dsimp only); (have e9 : t5 = 4096 := by omega); rw [e9] at hNq; exact hNq, by rw [ht]; exact hP, hD⟩, hS.F ht⟩) hS.2.2 dX12_models_83
    · have t_8 : ¬ ((t5 : Nat) : Int) ≥ 4096 := toI_nge c_8 (nI_toInt (by omega)) (by decide)
      refine lv_iconst (v := 1) hx hb dX12_models_11 (by decide) ?_
      refine lv_istore hx hb dX12_models_12 hl (by decide) rfl (fun ls (hl : lv_has ls _ ([(4, .int 1), (0, .ref h0), (1, .int sI), (2, .int nq), (3, .int (nI t5))])) => ?_)
      refine lv_iconst (v := 0) hx hb dX12_models_14 (by decide) ?_
      refine lv_istore hx hb dX12_models_15 hl (by decide) rfl (fun ls (hl : lv_has ls _ ([(5, .int 0), (4, .int 1), (0, .ref h0), (1, .int sI), (2, .int nq), (3, .int (nI t5))])) => ?_)
      have hl : lv_has _ _ ([(0, .ref h0), (1, .int sI), (2, .int nq), (3, .int (nI t5)), (4, .int 1), (5, .int (nI 0))]) := lv_sub hl [2, 3, 4, 5, 1, 0] rfl
      refine (fun (loop : ∀ (n9 : Nat) (k5 : Nat) (iq : Int32) (H : Heap) (locs : List Loc) (ls : Array Slot), (k5 ≤ cl) → (((iq).toInt = 1 ∧ cSat (((cl : Nat) : Int), vF 92, vF 93, vF 94) sI t5 k5 = true) ∨ ((iq).toInt = 0 ∧ cSat (((cl : Nat) : Int), vF 92, vF 93, vF 94) sI t5 k5 = false)) →  (cl < k5 + n9) → va_P (dC, dI) vwCl (WR a k h0 vi vj vF vG) H → va_D A (WR a k h0 vi vj vF vG) → va_S A s.heap H locs → lv_has ls 6 [(0, .ref h0), (1, .int sI), (2, .int nq), (3, .int (nI t5)), (4, .int iq), (5, .int (nI k5))] → W p l e _ s m _ below meth c H locs 0 0 _ (F0 m 17 ls [])) => loop (cl + 1) 0 1 _ _ _ (by omega) (Or.inl ⟨by decide, rfl⟩) (by omega) hP hD hS hl) ?_
      intro n9
      induction n9 with
      | zero => intro k5 iq H locs ls hk5 hIq hf9; exact False.elim (by omega)
      | succ n9 ih17_1 =>
        intro k5 iq H locs ls hk5 hIq hf17_1 hP hD hS hl
        refine lv_iload hx hb dX12_models_17 (lv_at hl 5 rfl) ?_
        refine lv_aload_n hx hb dX12_models_19 rfl (lv_at hl 0 rfl) ?_
        refine va_get (D := (dC, dI)) (ci := 12) (v := .int (vi 146)) (C := RX12) (T := TX12) (N := 163) (fs := fM (vS a vi vj)) hx hb hts iwsRX12_models_in12 hown hK hP 0 rfl rfl 146 (by decide) (hts (.fieldLink RX12 1051 "OptimaWorksModel" "clauses" "I") (by decide +kernel)) (fun _ h9 => h9) rfl dX12_models_20 ?_
        refine lv_topi (fun y1 hy1 => ?_)
        obtain rfl : (nI cl) = y1 := (hy1.trans (hcl)).symm
        refine W.cut (pc := 63) (fun H locs ls stk => (((iq).toInt = 1 ∧ cSat (((cl : Nat) : Int), vF 92, vF 93, vF 94) sI t5 cl = true) ∨ ((iq).toInt = 0 ∧ cSat (((cl : Nat) : Int), vF 92, vF 93, vF 94) sI t5 cl = false)) ∧  stk = [] ∧ va_P (dC, dI) vwCl (WR a k h0 vi vj vF vG) H ∧ va_D A (WR a k h0 vi vj vF vG) ∧ va_S A s.heap H locs ∧ lv_has ls 6 [(0, .ref h0), (1, .int sI), (2, .int nq), (3, .int (nI t5)), (4, .int iq), (5, .int (nI k5))]) (fun join1 => ?_) ?_
        · refine lv_icmp_ge (tgt := 63) hx hb dX12_models_23 (by decide) (fun c_23 => ?_) (fun c_23 => ?_)
          · have t_23 : ((k5 : Nat) : Int) ≥ ((cl : Nat) : Int) := toI_ge c_23 (nI_toInt (by omega)) (nI_toInt (by omega))
            have hl : lv_has _ _ ([(0, .ref h0), (1, .int sI), (2, .int nq), (3, .int (nI t5)), (4, .int iq), (5, .int (nI k5))]) := lv_sub hl [0, 1, 2, 3, 4, 5] rfl
            exact join1 _ _ _ _ ⟨(by (have h9 := hIq); rw [show k5 = cl from by omega] at h9; exact h9), rfl, hP, hD, hS, hl⟩
          · have t_23 : ¬ ((k5 : Nat) : Int) ≥ ((cl : Nat) : Int) := toI_nge c_23 (nI_toInt (by omega)) (nI_toInt (by omega))
            refine lv_iload hx hb dX12_models_26 (lv_at hl 4 rfl) ?_
            refine lv_if_eq (tgt := 63) hx hb dX12_models_28 (by decide) (fun c_28 => ?_) (fun c_28 => ?_)
            · have t_28 : (iq).toInt = 0 := toI_eq c_28 rfl (by decide)
              have hl : lv_has _ _ ([(0, .ref h0), (1, .int sI), (2, .int nq), (3, .int (nI t5)), (4, .int iq), (5, .int (nI k5))]) := lv_sub hl [0, 1, 2, 3, 4, 5] rfl
              exact join1 _ _ _ _ ⟨Or.inr ⟨t_28, cSat_no (hIq.elim (fun h => absurd (h.1.symm.trans t_28) (by decide)) (fun h => h.2)) cl (by omega)⟩, rfl, hP, hD, hS, hl⟩
            · have t_28 : ¬ (iq).toInt = 0 := toI_neq c_28 rfl (by decide)
              refine lv_iload_n hx hb dX12_models_31 rfl (lv_at hl 1 rfl) ?_
              refine lv_iload hx hb dX12_models_32 (lv_at hl 5 rfl) ?_
              refine lv_ishr hx hb dX12_models_34 ?_
              refine lv_iconst (v := 1) hx hb dX12_models_35 (by decide) ?_
              refine lv_iand hx hb dX12_models_36 ?_
              refine W.cut (pc := 55) (fun H locs ls stk => ∃ (jb : Int32), (((jb).toInt = 1 ∧ cSat (((cl : Nat) : Int), vF 92, vF 93, vF 94) sI t5 (k5 + 1) = true) ∨ ((jb).toInt = 0 ∧ cSat (((cl : Nat) : Int), vF 92, vF 93, vF 94) sI t5 (k5 + 1) = false)) ∧  stk = [.int jb] ∧ va_P (dC, dI) vwCl (WR a k h0 vi vj vF vG) H ∧ va_D A (WR a k h0 vi vj vF vG) ∧ va_S A s.heap H locs ∧ lv_has ls 6 [(0, .ref h0), (1, .int sI), (2, .int nq), (3, .int (nI t5)), (4, .int iq), (5, .int (nI k5))]) (fun join2 => ?_) ?_
              · refine lv_if_eq (tgt := 50) hx hb dX12_models_37 (by decide) (fun c_37 => ?_) (fun c_37 => ?_)
                · have t_37 : (((sI >>> ((nI k5) &&& 31)) &&& 1)).toInt = 0 := toI_eq c_37 rfl (by decide)
                  refine lv_iconst (v := 1) hx hb dX12_models_50 (by decide) ?_
                  refine lv_goto (tgt := 55) hx hb dX12_models_51 (by decide) ?_
                  have hl : lv_has _ _ ([(0, .ref h0), (1, .int sI), (2, .int nq), (3, .int (nI t5)), (4, .int iq), (5, .int (nI k5))]) := lv_sub hl [0, 1, 2, 3, 4, 5] rfl
                  exact join2 _ _ _ _ ⟨1, Or.inl ⟨by decide, cSat_bit0 (hIq.elim (fun h => h.2) (fun h => absurd h.1 t_28)) ((bI_test (by omega)).mp c_37)⟩, rfl, hP, hD, hS, hl⟩
                · have t_37 : ¬ (((sI >>> ((nI k5) &&& 31)) &&& 1)).toInt = 0 := toI_neq c_37 rfl (by decide)
                  refine lv_aload_n hx hb dX12_models_40 rfl (lv_at hl 0 rfl) ?_
                  refine lv_iload hx hb dX12_models_41 (lv_at hl 5 rfl) ?_
                  refine lv_iload_n hx hb dX12_models_43 rfl (lv_at hl 3 rfl) ?_
                  have hFc := allFree hD hS hA
                  refine va_calli (va_runV (As := [.int (nI k5), .int (nI t5)]) (rest := []) ⟨hx, hb, hml, hown, hts⟩ (r_X12_keeps l dC dI a k h0 vi vj vF vG k5 (nI t5) (by first | with_reducible assumption | decide | omega | rfl | assumption) H.size) (cwV 2 hts gwsRX12_models_0 rfl rfl rfl hd_yX12_keeps_RX12 (by decide +kernel)) (fz_pre (va_recv hK hP (ci := 12) (q0 := 0) rfl rfl) hP hK hD) rfl rfl hl.1 rfl (lv_room (Nat.le_of_ble_eq_true rfl)) dX12_models_44 (by decide +kernel)) hS (fun q _ h => hFc q h) hFc (fun r44 u t9_ H locs ht hvm hw9 hB9 hz1 hk1 hS => ?_)
                  have hP : va_P (dC, dI) vwCl (WR a k h0 vi vj vF vG) H := fz_P ht hB9.1
                  have hD := fz_sd hP (hB9.2.weaken (fun _ q _ h => hFc q.1 h)) rfl
                  rcases hw9 with ⟨rfl, f44_0⟩ | ⟨rfl, f44_0⟩
                  · have f44_0 : ¬ (((vF 92) k5 &&& (nI t5)) = 0 ∧ ((vF 93) k5 &&& ((nI t5) ^^^ (-1))) = 0) := f44_0
                    refine lv_if_eq (tgt := 54) hx hb dX12_models_47 (by decide) (fun c9 => absurd c9 (by decide)) (fun _ => ?_)
                    refine lv_iconst (v := 1) hx hb dX12_models_50 (by decide) ?_
                    refine lv_goto (tgt := 55) hx hb dX12_models_51 (by decide) ?_
                    have hl : lv_has _ _ ([(0, .ref h0), (1, .int sI), (2, .int nq), (3, .int (nI t5)), (4, .int iq), (5, .int (nI k5))]) := lv_sub hl [0, 1, 2, 3, 4, 5] rfl
                    exact join2 _ _ _ _ ⟨1, by first | exact Or.inl ⟨by decide, cSat_kept (hIq.elim (fun h => h.2) (fun h => absurd h.1 t_28)) (decide_eq_false f44_0)⟩ | exact Or.inr ⟨by decide, cSat_fail (by cases h9 : bI sI k5; (exact absurd ((bI_test (by omega)).mpr h9) c_37); rfl) (decide_eq_true f44_0)⟩, rfl, hP, hD, hS, hl⟩
                  · have f44_0 : (((vF 92) k5 &&& (nI t5)) = 0 ∧ ((vF 93) k5 &&& ((nI t5) ^^^ (-1))) = 0) := f44_0
                    refine lv_if_eq (tgt := 54) hx hb dX12_models_47 (by decide) (fun _ => ?_) (fun c9 => absurd (by decide) c9)
                    refine lv_iconst (v := 0) hx hb dX12_models_54 (by decide) ?_
                    have hl : lv_has _ _ ([(0, .ref h0), (1, .int sI), (2, .int nq), (3, .int (nI t5)), (4, .int iq), (5, .int (nI k5))]) := lv_sub hl [0, 1, 2, 3, 4, 5] rfl
                    exact join2 _ _ _ _ ⟨0, by first | exact Or.inl ⟨by decide, cSat_kept (hIq.elim (fun h => h.2) (fun h => absurd h.1 t_28)) (decide_eq_false f44_0)⟩ | exact Or.inr ⟨by decide, cSat_fail (by cases h9 : bI sI k5; (exact absurd ((bI_test (by omega)).mpr h9) c_37); rfl) (decide_eq_true f44_0)⟩, rfl, hP, hD, hS, hl⟩
              · rintro H locs ls stk ⟨jb, hjb, rfl, hP, hD, hS, hl⟩
                refine lv_istore hx hb dX12_models_55 hl (by decide) rfl (fun ls (hl : lv_has ls _ ([(4, .int jb), (0, .ref h0), (1, .int sI), (2, .int nq), (3, .int (nI t5)), (5, .int (nI k5))])) => ?_)
                refine lv_iinc (v := (nI (k5 + 1))) hx hb dX12_models_57 hl (k := 5) rfl (nI_add k5 1) (by decide) rfl (fun ls (hl : lv_has ls _ ([(5, .int (nI (k5 + 1))), (4, .int jb), (0, .ref h0), (1, .int sI), (2, .int nq), (3, .int (nI t5))])) => ?_)
                refine lv_goto (tgt := 17) hx hb dX12_models_60 (by decide) ?_
                have hl : lv_has _ _ ([(0, .ref h0), (1, .int sI), (2, .int nq), (3, .int (nI t5)), (4, .int jb), (5, .int (nI (k5 + 1)))]) := lv_sub hl [2, 3, 4, 5, 1, 0] rfl
                exact ih17_1 (k5 + 1) jb _ _ _ (by omega) (hjb) (by omega) hP hD hS hl
        · rintro H locs ls stk ⟨hS63, rfl, hP, hD, hS, hl⟩
          refine lv_iload_n hx hb dX12_models_63 rfl (lv_at hl 2 rfl) ?_
          refine lv_iload hx hb dX12_models_64 (lv_at hl 4 rfl) ?_
          refine W.cut (pc := 74) (fun H locs ls stk => ∃ (jn : Int32), (((jn).toInt = 1 ∧ cSat (((cl : Nat) : Int), vF 92, vF 93, vF 94) sI t5 cl = true) ∨ ((jn).toInt = 0 ∧ cSat (((cl : Nat) : Int), vF 92, vF 93, vF 94) sI t5 cl = false)) ∧  stk = [.int jn, .int nq] ∧ va_P (dC, dI) vwCl (WR a k h0 vi vj vF vG) H ∧ va_D A (WR a k h0 vi vj vF vG) ∧ va_S A s.heap H locs ∧ lv_has ls 6 [(0, .ref h0), (1, .int sI), (2, .int nq), (3, .int (nI t5)), (4, .int iq), (5, .int (nI k5))]) (fun join3 => ?_) ?_
          · refine lv_if_eq (tgt := 73) hx hb dX12_models_66 (by decide) (fun c_66 => ?_) (fun c_66 => ?_)
            · have t_66 : (iq).toInt = 0 := toI_eq c_66 rfl (by decide)
              refine lv_iconst (v := 0) hx hb dX12_models_73 (by decide) ?_
              have hl : lv_has _ _ ([(0, .ref h0), (1, .int sI), (2, .int nq), (3, .int (nI t5)), (4, .int iq), (5, .int (nI k5))]) := lv_sub hl [0, 1, 2, 3, 4, 5] rfl
              exact join3 _ _ _ _ ⟨0, Or.inr ⟨by decide, hS63.elim (fun h => absurd (h.1.symm.trans t_66) (by decide)) (fun h => h.2)⟩, rfl, hP, hD, hS, hl⟩
            · have t_66 : ¬ (iq).toInt = 0 := toI_neq c_66 rfl (by decide)
              refine lv_iconst (v := 1) hx hb dX12_models_69 (by decide) ?_
              refine lv_goto (tgt := 74) hx hb dX12_models_70 (by decide) ?_
              have hl : lv_has _ _ ([(0, .ref h0), (1, .int sI), (2, .int nq), (3, .int (nI t5)), (4, .int iq), (5, .int (nI k5))]) := lv_sub hl [0, 1, 2, 3, 4, 5] rfl
              exact join3 _ _ _ _ ⟨1, Or.inl ⟨by decide, hS63.elim (fun h => h.2) (fun h => absurd h.1 t_66)⟩, rfl, hP, hD, hS, hl⟩
          · rintro H locs ls stk ⟨jn, hjn, rfl, hP, hD, hS, hl⟩
            refine lv_iadd hx hb dX12_models_74 ?_
            refine lv_istore_n hx hb dX12_models_75 rfl hl (by decide) rfl (fun ls (hl : lv_has ls _ ([(2, .int (nq + jn)), (0, .ref h0), (1, .int sI), (3, .int (nI t5)), (4, .int iq), (5, .int (nI k5))])) => ?_)
            refine lv_iinc (v := (nI (t5 + 1))) hx hb dX12_models_76 hl (k := 3) rfl (nI_add t5 1) (by decide) rfl (fun ls (hl : lv_has ls _ ([(3, .int (nI (t5 + 1))), (2, .int (nq + jn)), (0, .ref h0), (1, .int sI), (4, .int iq), (5, .int (nI k5))])) => ?_)
            refine lv_goto (tgt := 4) hx hb dX12_models_79 (by decide) ?_
            have hl : lv_has _ _ ([(0, .ref h0), (1, .int sI), (2, .int (nq + jn)), (3, .int (nI (t5 + 1)))]) := lv_sub hl [2, 3, 1, 0] rfl
            exact ih4 (t5 + 1) (nq + jn) _ _ _ (by omega) (by have h8 := cntB_le (fun k => cSat (((cl : Nat) : Int), vF 92, vF 93, vF 94) sI k cl) t5; have h7 : cntB (fun k => cSat (((cl : Nat) : Int), vF 92, vF 93, vF 94) sI k cl) (t5 + 1) = cntB (fun k => cSat (((cl : Nat) : Int), vF 92, vF 93, vF 94) sI k cl) t5 + (if cSat (((cl : Nat) : Int), vF 92, vF 93, vF 94) sI t5 cl = true then 1 else 0) := rfl; rw [h7]; rcases hjn with ⟨h6, h5⟩ | ⟨h6, h5⟩; (rw [if_pos h5, addB (by omega) (by omega)]; omega); (rw [if_neg (by rw [h5]; decide), addB (by omega) (by omega)]; omega)) (by omega) hP hD hS hl
theorem dX12_core_0 : decode cX12_core 0 = .ok (.iconst 1, 1) := dk_4 (by decide +kernel)
theorem dX12_core_1 : decode cX12_core 1 = .ok (.aload_n 0, 1) := dk_42 (by decide +kernel)
theorem dX12_core_2 : decode cX12_core 2 = .ok (.getfield 1051, 3) := dk_180 (by decide +kernel)
theorem dX12_core_5 : decode cX12_core 5 = .ok (.ishl, 1) := dk_120 (by decide +kernel)
theorem dX12_core_6 : decode cX12_core 6 = .ok (.iconst 1, 1) := dk_4 (by decide +kernel)
theorem dX12_core_7 : decode cX12_core 7 = .ok (.isub, 1) := dk_100 (by decide +kernel)
theorem dX12_core_8 : decode cX12_core 8 = .ok (.istore_n 1, 1) := dk_60 (by decide +kernel)
theorem dX12_core_9 : decode cX12_core 9 = .ok (.aload_n 0, 1) := dk_42 (by decide +kernel)
theorem dX12_core_10 : decode cX12_core 10 = .ok (.iload_n 1, 1) := dk_27 (by decide +kernel)
theorem dX12_core_11 : decode cX12_core 11 = .ok (.invokevirtual 1057, 3) := dk_182 (by decide +kernel)
theorem dX12_core_14 : decode cX12_core 14 = .ok (.ifCond .le 5, 3) := dk_158 (by decide +kernel)
theorem dX12_core_17 : decode cX12_core 17 = .ok (.iconst 0, 1) := dk_3 (by decide +kernel)
theorem dX12_core_18 : decode cX12_core 18 = .ok (.ireturn, 1) := dk_172 (by decide +kernel)
theorem dX12_core_19 : decode cX12_core 19 = .ok (.aload_n 0, 1) := dk_42 (by decide +kernel)
theorem dX12_core_20 : decode cX12_core 20 = .ok (.getfield 1051, 3) := dk_180 (by decide +kernel)
theorem dX12_core_23 : decode cX12_core 23 = .ok (.iconst 1, 1) := dk_4 (by decide +kernel)
theorem dX12_core_24 : decode cX12_core 24 = .ok (.isub, 1) := dk_100 (by decide +kernel)
theorem dX12_core_25 : decode cX12_core 25 = .ok (.istore_n 2, 1) := dk_61 (by decide +kernel)
theorem dX12_core_26 : decode cX12_core 26 = .ok (.iload_n 2, 1) := dk_28 (by decide +kernel)
theorem dX12_core_27 : decode cX12_core 27 = .ok (.ifCond .lt 31, 3) := dk_155 (by decide +kernel)
theorem dX12_core_30 : decode cX12_core 30 = .ok (.aload_n 0, 1) := dk_42 (by decide +kernel)
theorem dX12_core_31 : decode cX12_core 31 = .ok (.iload_n 1, 1) := dk_27 (by decide +kernel)
theorem dX12_core_32 : decode cX12_core 32 = .ok (.iconst 1, 1) := dk_4 (by decide +kernel)
theorem dX12_core_33 : decode cX12_core 33 = .ok (.iload_n 2, 1) := dk_28 (by decide +kernel)
theorem dX12_core_34 : decode cX12_core 34 = .ok (.ishl, 1) := dk_120 (by decide +kernel)
theorem dX12_core_35 : decode cX12_core 35 = .ok (.iconst (-1), 1) := dk_2 (by decide +kernel)
theorem dX12_core_36 : decode cX12_core 36 = .ok (.ixor, 1) := dk_130 (by decide +kernel)
theorem dX12_core_37 : decode cX12_core 37 = .ok (.iand, 1) := dk_126 (by decide +kernel)
theorem dX12_core_38 : decode cX12_core 38 = .ok (.invokevirtual 1057, 3) := dk_182 (by decide +kernel)
theorem dX12_core_41 : decode cX12_core 41 = .ok (.ifCond .ne 11, 3) := dk_154 (by decide +kernel)
theorem dX12_core_44 : decode cX12_core 44 = .ok (.iload_n 1, 1) := dk_27 (by decide +kernel)
theorem dX12_core_45 : decode cX12_core 45 = .ok (.iconst 1, 1) := dk_4 (by decide +kernel)
theorem dX12_core_46 : decode cX12_core 46 = .ok (.iload_n 2, 1) := dk_28 (by decide +kernel)
theorem dX12_core_47 : decode cX12_core 47 = .ok (.ishl, 1) := dk_120 (by decide +kernel)
theorem dX12_core_48 : decode cX12_core 48 = .ok (.iconst (-1), 1) := dk_2 (by decide +kernel)
theorem dX12_core_49 : decode cX12_core 49 = .ok (.ixor, 1) := dk_130 (by decide +kernel)
theorem dX12_core_50 : decode cX12_core 50 = .ok (.iand, 1) := dk_126 (by decide +kernel)
theorem dX12_core_51 : decode cX12_core 51 = .ok (.istore_n 1, 1) := dk_60 (by decide +kernel)
theorem dX12_core_52 : decode cX12_core 52 = .ok (.iinc 2 (-1), 3) := dk_132 (by decide +kernel)
theorem dX12_core_55 : decode cX12_core 55 = .ok (.goto (-29), 3) := dk_167 (by decide +kernel)
theorem dX12_core_58 : decode cX12_core 58 = .ok (.iload_n 1, 1) := dk_27 (by decide +kernel)
theorem dX12_core_59 : decode cX12_core 59 = .ok (.ireturn, 1) := dk_172 (by decide +kernel)
def wsRX12_core : List Cond := .code yX12_core cX12_core 3 (some .int) :: ([.fieldLink RX12 1051 "OptimaWorksModel" "clauses" "I"] ++ wsX120 ++ (wsV RX12 1057 RX12 yX12_models wsRX12_models))
theorem iwsRX12_core_in12 : ∀ w ∈ wsX120, w ∈ wsRX12_core := fun _ h => List.mem_cons_of_mem _ (List.mem_append_left _ (List.mem_append_right _ h))
theorem gwsRX12_core_0 : GoodIn wsRX12_core (wsV RX12 1057 RX12 yX12_models wsRX12_models) := goodIn_sub (fun _ h => List.mem_cons_of_mem _ (List.mem_append_right _ h)) (gdV (by decide +kernel) gdwsRX12_models)
theorem gdwsRX12_core : wsRX12_core.all goodWord = true := gdC rfl (gdA (gdA (by decide +kernel : ([.fieldLink RX12 1051 "OptimaWorksModel" "clauses" "I"] : List Cond).all goodWord = true) gdwsX120) (gdV (by decide +kernel) gdwsRX12_models))
theorem hm_r_X12_core_0 : (.fieldLink RX12 1051 "OptimaWorksModel" "clauses" "I" : Cond) ∈ wsRX12_core := by decide +kernel
set_option maxHeartbeats 4000000 in
set_option maxRecDepth 100000 in
/-- core() -/
theorem r_X12_core (l : Launch) (dC : Nat → ClassId) (dI : Nat → Nat → Nat) (a : Nat → Nat) (k : Nat → ClassId) (h0 : Nat) (vi : Nat → Int32) (vj : Nat → Int64) (vF : Nat → Nat → Int32) (vG : Nat → Nat → Int64) (cl : Nat) (hcl : vi 146 = nI cl) (hcl24 : cl ≤ 24) (sz : Nat) : Met l yX12_core wsRX12_core ({ frames := 2, cells := 0, slots := 0, locals := 47 }) (va_Pc [.ref h0] (fun U => U.heap.size = sz ∧ va_P (dC, dI) vwCl (WR a k h0 vi vj vF vG) U.heap ∧ va_K (dC, dI) vwCl (tX12 k) U ∧ va_D (fun _ => True) (WR a k h0 vi vj vF vG))) (va_Qi (fun (r : Int32) (u : Unit) => (r = 0 ∧ (cCan (((cl : Nat) : Int), vF 92, vF 93, vF 94) (cFull cl))) ∨ ((¬ cCan (((cl : Nat) : Int), vF 92, vF 93, vF 94) (cFull cl)) ∧ (cCore (((cl : Nat) : Int), vF 92, vF 93, vF 94) cl (cFull cl) r))) (fun (u : Unit) t => va_P (dC, dI) vwCl (WR a k h0 vi vj vF vG) t.heap ∧ va_D (va_A (WR a k h0 vi vj vF vG) sz) (WR a k h0 vi vj vF vG)) (va_A (WR a k h0 vi vj vF vG) sz)) 0 0 (va_A (WR a k h0 vi vj vF vG) sz) := by
  refine Met.ofW (cc := cX12_core) (maxL := 3) (ret := (some .int)) (by decide) rfl ?_
  intro p e s m args below meth c s₁ B hml hv
  obtain ⟨rfl, hsz, hP, hK, hD0⟩ := hv
  have hx := B.exec
  have hb := B.bytes
  have hr := B.returns
  have hts := atoms_spec (ws := wsRX12_core) B.pre
  have hown : s.vm.findClass RX12 = some m.cls := findClass_of_methodNamed B.named
  have hlocks := B.notSynchronized
  subst hsz
  have hD := hD0.self (sz := s.heap.size)
  generalize hAe : va_A (WR a k h0 vi vj vF vG) s.heap.size = A at hD ⊢
  have hA : ∀ q : Nat, s.heap.size ≤ q → A q := fun q h => by rw [← hAe]; exact Or.inr h
  have hS : va_S A s.heap s.heap [] := va_S.rf
  have hl := lv_entry ([.ref h0]) (n := 3) (Nat.le_of_ble_eq_true rfl)
  rw [lg_entry_eq]
  generalize (lg_sl ([.ref h0]) ++ List.replicate (3 - (lg_sl ([.ref h0])).length) Slot.unset).toArray = ls at hl ⊢
  have hl : lv_has ls 3 [(0, .ref h0)] := hl
  refine lv_iconst (v := 1) hx hb dX12_core_0 (by decide) ?_
  refine lv_aload_n hx hb dX12_core_1 rfl (lv_at hl 0 rfl) ?_
  refine va_get (D := (dC, dI)) (ci := 12) (v := .int (vi 146)) (C := RX12) (T := TX12) (N := 163) (fs := fM (vS a vi vj)) hx hb hts iwsRX12_core_in12 hown hK hP 0 rfl rfl 146 (by decide) (hts _ hm_r_X12_core_0) (fun _ h9 => h9) rfl dX12_core_2 ?_
  refine lv_topi (fun y1 hy1 => ?_)
  obtain rfl : (nI cl) = y1 := (hy1.trans (hcl)).symm
  refine lv_ishl hx hb dX12_core_5 ?_
  refine lv_iconst (v := 1) hx hb dX12_core_6 (by decide) ?_
  refine lv_isub hx hb dX12_core_7 ?_
  refine lv_istore_n hx hb dX12_core_8 rfl hl (by decide) rfl (fun ls (hl : lv_has ls _ ([(1, .int ((1 <<< ((nI cl) &&& 31)) - 1)), (0, .ref h0)])) => ?_)
  refine lv_aload_n hx hb dX12_core_9 rfl (lv_at hl 1 rfl) ?_
  refine lv_iload_n hx hb dX12_core_10 rfl (lv_at hl 0 rfl) ?_
  have hFc := allFree hD hS hA
  refine va_calli (va_runV (As := [.int ((1 <<< ((nI cl) &&& 31)) - 1)]) (rest := []) ⟨hx, hb, hml, hown, hts⟩ (r_X12_models l dC dI a k h0 vi vj vF vG ((1 <<< ((nI cl) &&& 31)) - 1) cl hcl (by first | with_reducible assumption | decide | omega | rfl | assumption) s.heap.size) (cwV 1 hts gwsRX12_core_0 rfl rfl rfl hd_yX12_models_RX12 (by decide +kernel)) (fz_pre (va_recv hK hP (ci := 12) (q0 := 0) rfl rfl) hP hK hD) rfl rfl hl.1 rfl (lv_room (Nat.le_of_ble_eq_true rfl)) dX12_core_11 (by decide +kernel)) hS (fun q _ h => hFc q h) hFc (fun r11 u t9_ H locs ht hvm hw9 hB9 hz1 hk1 hS => ?_)
  have hP : va_P (dC, dI) vwCl (WR a k h0 vi vj vF vG) H := fz_P ht hB9.1
  have hD := fz_sd hP (hB9.2.weaken (fun _ q _ h => hFc q.1 h)) rfl
  have f11_0 := hw9
  try dsimp only at f11_0
  have f11_0 : r11.toInt = ((cMods (((cl : Nat) : Int), (vF 92), (vF 93), (vF 94)) ((1 <<< ((nI cl) &&& 31)) - 1) : Nat) : Int) := f11_0
  refine lv_if_le (tgt := 19) hx hb dX12_core_14 (by decide) (fun c_14 => ?_) (fun c_14 => ?_)
  · have t_14 : (r11).toInt ≤ 0 := toI_le c_14 rfl (by decide)
    refine lv_aload_n hx hb dX12_core_19 rfl (lv_at hl 1 rfl) ?_
    refine va_get (D := (dC, dI)) (ci := 12) (v := .int (vi 146)) (C := RX12) (T := TX12) (N := 163) (fs := fM (vS a vi vj)) hx hb hts iwsRX12_core_in12 hown hK hP 0 rfl rfl 146 (by decide) (hts _ hm_r_X12_core_0) (fun _ h9 => h9) rfl dX12_core_20 ?_
    refine lv_topi (fun y2 hy2 => ?_)
    obtain rfl : (nI cl) = y2 := (hy2.trans (hcl)).symm
    refine lv_iconst (v := 1) hx hb dX12_core_23 (by decide) ?_
    refine lv_isub hx hb dX12_core_24 ?_
    refine lv_istore_n hx hb dX12_core_25 rfl hl (by decide) rfl (fun ls (hl : lv_has ls _ ([(2, .int ((nI cl) - 1)), (1, .int ((1 <<< ((nI cl) &&& 31)) - 1)), (0, .ref h0)])) => ?_)
    have hl : lv_has _ _ ([(0, .ref h0), (1, .int ((1 <<< ((nI cl) &&& 31)) - 1)), (2, .int ((nI cl) - 1))]) := lv_sub hl [2, 1, 0] rfl
    refine (fun (loop : ∀ (n9 : Nat) (so : Int32) (kq : Int32) (kk1 : Nat) (H : Heap) (locs : List Loc) (ls : Array Slot), ((kq).toInt = (kk1 : Int) - 1) → (kk1 ≤ cl) → (∀ r9 : Int32, cCore (((cl : Nat) : Int), vF 92, vF 93, vF 94) kk1 so r9 → cCore (((cl : Nat) : Int), vF 92, vF 93, vF 94) cl (cFull cl) r9) →  (kk1 < n9) → va_P (dC, dI) vwCl (WR a k h0 vi vj vF vG) H → va_D A (WR a k h0 vi vj vF vG) → va_S A s.heap H locs → lv_has ls 3 [(0, .ref h0), (1, .int so), (2, .int kq)] → W p l e _ s m _ below meth c H locs 0 0 _ (F0 m 26 ls [])) => loop (cl + 1) ((1 <<< ((nI cl) &&& 31)) - 1) ((nI cl) - 1) cl _ _ _ (by exact pk_sub_toInt (a := cl) (b := 1) (by omega) (by omega)) (by omega) (fun _ h9 => h9) (by omega) hP hD hS hl) ?_
    intro n9
    induction n9 with
    | zero => intro so kq kk1 H locs ls hkq hkn hCo hf9; exact False.elim (by omega)
    | succ n9 ih26 =>
      intro so kq kk1 H locs ls hkq hkn hCo hf26 hP hD hS hl
      refine lv_iload_n hx hb dX12_core_26 rfl (lv_at hl 2 rfl) ?_
      refine lv_if_lt (tgt := 58) hx hb dX12_core_27 (by decide) (fun c_27 => ?_) (fun c_27 => ?_)
      · have t_27 : (kq).toInt < 0 := toI_lt c_27 rfl (by decide)
        refine lv_iload_n hx hb dX12_core_58 rfl (lv_at hl 1 rfl) ?_
        refine W.widen (k := 0) (n := 0) (by decide +kernel) (by decide +kernel) ?_
        exact W.iret (v := so) hx hb hr (fun t9_ ht hW => ⟨⟨so, (), rfl, by (try dsimp only); exact Or.inr ⟨fun h7 => (by have h6 : (r11).toInt = ((cMods (((cl : Nat) : Int), vF 92, vF 93, vF 94) (cFull cl) : Nat) : Int) := f11_0; have h5 := (cMods_pos (d := (((cl : Nat) : Int), vF 92, vF 93, vF 94))).mpr h7; omega), hCo so (by rw [show kk1 = 0 from by omega]; rfl)⟩, by rw [ht]; exact hP, hD⟩, hS.F ht⟩) hS.2.2 dX12_core_59
      · have t_27 : ¬ (kq).toInt < 0 := toI_nlt c_27 rfl (by decide)
        obtain ⟨kk, h_kk, rfl⟩ := of_toInt (x := kq) (k := 24) (by omega) (by omega)
        have e_kk : (nI kk).toInt = (kk : Int) := nI_toInt (by omega)
        refine lv_aload_n hx hb dX12_core_30 rfl (lv_at hl 0 rfl) ?_
        refine lv_iload_n hx hb dX12_core_31 rfl (lv_at hl 1 rfl) ?_
        refine lv_iconst (v := 1) hx hb dX12_core_32 (by decide) ?_
        refine lv_iload_n hx hb dX12_core_33 rfl (lv_at hl 2 rfl) ?_
        refine lv_ishl hx hb dX12_core_34 ?_
        refine lv_iconst (v := (-1)) hx hb dX12_core_35 (by decide) ?_
        refine lv_ixor hx hb dX12_core_36 ?_
        refine lv_iand hx hb dX12_core_37 ?_
        have hFc := allFree hD hS hA
        refine va_calli (va_runV (As := [.int (so &&& ((1 <<< ((nI kk) &&& 31)) ^^^ (-1)))]) (rest := []) ⟨hx, hb, hml, hown, hts⟩ (r_X12_models l dC dI a k h0 vi vj vF vG (so &&& ((1 <<< ((nI kk) &&& 31)) ^^^ (-1))) cl hcl (by first | with_reducible assumption | decide | omega | rfl | assumption) H.size) (cwV 1 hts gwsRX12_core_0 rfl rfl rfl hd_yX12_models_RX12 (by decide +kernel)) (fz_pre (va_recv hK hP (ci := 12) (q0 := 0) rfl rfl) hP hK hD) rfl rfl hl.1 rfl (lv_room (Nat.le_of_ble_eq_true rfl)) dX12_core_38 (by decide +kernel)) hS (fun q _ h => hFc q h) hFc (fun r38 u t9_ H locs ht hvm hw9 hB9 hz1 hk1 hS => ?_)
        have hP : va_P (dC, dI) vwCl (WR a k h0 vi vj vF vG) H := fz_P ht hB9.1
        have hD := fz_sd hP (hB9.2.weaken (fun _ q _ h => hFc q.1 h)) rfl
        have f38_0 := hw9
        try dsimp only at f38_0
        have f38_0 : r38.toInt = ((cMods (((cl : Nat) : Int), (vF 92), (vF 93), (vF 94)) (so &&& ((1 <<< ((nI kk) &&& 31)) ^^^ (-1))) : Nat) : Int) := f38_0
        refine lv_if_ne (tgt := 52) hx hb dX12_core_41 (by decide) (fun c_41 => ?_) (fun c_41 => ?_)
        · have t_41 : (r38).toInt ≠ 0 := toI_ne c_41 rfl (by decide)
          refine lv_iinc (v := ((nI kk) + (-1))) hx hb dX12_core_52 hl (k := 2) rfl rfl (by decide) rfl (fun ls (hl : lv_has ls _ ([(2, .int ((nI kk) + (-1))), (0, .ref h0), (1, .int so)])) => ?_)
          refine lv_goto (tgt := 26) hx hb dX12_core_55 (by decide) ?_
          have hl : lv_has _ _ ([(0, .ref h0), (1, .int so), (2, .int ((nI kk) + (-1)))]) := lv_sub hl [1, 2, 0] rfl
          exact ih26 so ((nI kk) + (-1)) (kk1 - 1) _ _ _ (by rw [m1T (by omega)]; omega) (by omega) (fun r9 h9 => by have ek : kk1 = kk + 1 := (by have h9 : (nI kk).toInt = (kk : Int) := nI_toInt (by omega); omega); have h8 : cCan (((cl : Nat) : Int), vF 92, vF 93, vF 94) (cLess so kk) := (cMods_pos).mp (by have h6 : (r38).toInt = ((cMods (((cl : Nat) : Int), vF 92, vF 93, vF 94) (cLess so kk) : Nat) : Int) := f38_0; omega); exact hCo r9 (by rw [ek]; rw [ek] at h9; exact Or.inl ⟨h8, h9⟩)) (by omega) hP hD hS hl
        · have t_41 : (r38).toInt = 0 := toI_nne c_41 rfl (by decide)
          refine lv_iload_n hx hb dX12_core_44 rfl (lv_at hl 1 rfl) ?_
          refine lv_iconst (v := 1) hx hb dX12_core_45 (by decide) ?_
          refine lv_iload_n hx hb dX12_core_46 rfl (lv_at hl 2 rfl) ?_
          refine lv_ishl hx hb dX12_core_47 ?_
          refine lv_iconst (v := (-1)) hx hb dX12_core_48 (by decide) ?_
          refine lv_ixor hx hb dX12_core_49 ?_
          refine lv_iand hx hb dX12_core_50 ?_
          refine lv_istore_n hx hb dX12_core_51 rfl hl (by decide) rfl (fun ls (hl : lv_has ls _ ([(1, .int (so &&& ((1 <<< ((nI kk) &&& 31)) ^^^ (-1)))), (0, .ref h0), (2, .int (nI kk))])) => ?_)
          refine lv_iinc (v := ((nI kk) + (-1))) hx hb dX12_core_52 hl (k := 2) rfl rfl (by decide) rfl (fun ls (hl : lv_has ls _ ([(2, .int ((nI kk) + (-1))), (1, .int (so &&& ((1 <<< ((nI kk) &&& 31)) ^^^ (-1)))), (0, .ref h0)])) => ?_)
          refine lv_goto (tgt := 26) hx hb dX12_core_55 (by decide) ?_
          have hl : lv_has _ _ ([(0, .ref h0), (1, .int (so &&& ((1 <<< ((nI kk) &&& 31)) ^^^ (-1)))), (2, .int ((nI kk) + (-1)))]) := lv_sub hl [2, 1, 0] rfl
          exact ih26 (so &&& ((1 <<< ((nI kk) &&& 31)) ^^^ (-1))) ((nI kk) + (-1)) (kk1 - 1) _ _ _ (by rw [m1T (by omega)]; omega) (by omega) (fun r9 h9 => by have ek : kk1 = kk + 1 := (by have h9 : (nI kk).toInt = (kk : Int) := nI_toInt (by omega); omega); have h8 : ¬ cCan (((cl : Nat) : Int), vF 92, vF 93, vF 94) (cLess so kk) := (fun h7 => by have h6 : (r38).toInt = ((cMods (((cl : Nat) : Int), vF 92, vF 93, vF 94) (cLess so kk) : Nat) : Int) := f38_0; have h5 := (cMods_pos (d := (((cl : Nat) : Int), vF 92, vF 93, vF 94))).mpr h7; omega); exact hCo r9 (by rw [ek]; rw [ek] at h9; exact Or.inr ⟨h8, h9⟩)) (by omega) hP hD hS hl
  · have t_14 : ¬ (r11).toInt ≤ 0 := toI_nle c_14 rfl (by decide)
    refine lv_iconst (v := 0) hx hb dX12_core_17 (by decide) ?_
    refine W.widen (k := 0) (n := 0) (by decide +kernel) (by decide +kernel) ?_
    exact W.iret (v := 0) hx hb hr (fun t9_ ht hW => ⟨⟨0, (), rfl, by (try dsimp only); exact Or.inl ⟨rfl, (cMods_pos).mp (by have h6 : (r11).toInt = ((cMods (((cl : Nat) : Int), vF 92, vF 93, vF 94) (cFull cl) : Nat) : Int) := f11_0; omega)⟩, by rw [ht]; exact hP, hD⟩, hS.F ht⟩) hS.2.2 dX12_core_18
theorem dX12_truth_0 : decode cX12_truth 0 = .ok (.aload_n 0, 1) := dk_42 (by decide +kernel)
theorem dX12_truth_1 : decode cX12_truth 1 = .ok (.iconst 0, 1) := dk_3 (by decide +kernel)
theorem dX12_truth_2 : decode cX12_truth 2 = .ok (.putfield 348, 3) := dk_181 (by decide +kernel)
theorem dX12_truth_5 : decode cX12_truth 5 = .ok (.iload_n 1, 1) := dk_27 (by decide +kernel)
theorem dX12_truth_6 : decode cX12_truth 6 = .ok (.iconst 4, 1) := dk_7 (by decide +kernel)
theorem dX12_truth_7 : decode cX12_truth 7 = .ok (.if_icmp .ne 8, 3) := dk_160 (by decide +kernel)
theorem dX12_truth_10 : decode cX12_truth 10 = .ok (.aload_n 0, 1) := dk_42 (by decide +kernel)
theorem dX12_truth_11 : decode cX12_truth 11 = .ok (.getfield 1051, 3) := dk_180 (by decide +kernel)
theorem dX12_truth_14 : decode cX12_truth 14 = .ok (.ireturn, 1) := dk_172 (by decide +kernel)
theorem dX12_truth_15 : decode cX12_truth 15 = .ok (.iload_n 1, 1) := dk_27 (by decide +kernel)
theorem dX12_truth_16 : decode cX12_truth 16 = .ok (.iconst 2, 1) := dk_5 (by decide +kernel)
theorem dX12_truth_17 : decode cX12_truth 17 = .ok (.if_icmp .ne 16, 3) := dk_160 (by decide +kernel)
theorem dX12_truth_20 : decode cX12_truth 20 = .ok (.aload_n 0, 1) := dk_42 (by decide +kernel)
theorem dX12_truth_21 : decode cX12_truth 21 = .ok (.iconst 1, 1) := dk_4 (by decide +kernel)
theorem dX12_truth_22 : decode cX12_truth 22 = .ok (.aload_n 0, 1) := dk_42 (by decide +kernel)
theorem dX12_truth_23 : decode cX12_truth 23 = .ok (.getfield 1051, 3) := dk_180 (by decide +kernel)
theorem dX12_truth_26 : decode cX12_truth 26 = .ok (.ishl, 1) := dk_120 (by decide +kernel)
theorem dX12_truth_27 : decode cX12_truth 27 = .ok (.iconst 1, 1) := dk_4 (by decide +kernel)
theorem dX12_truth_28 : decode cX12_truth 28 = .ok (.isub, 1) := dk_100 (by decide +kernel)
theorem dX12_truth_29 : decode cX12_truth 29 = .ok (.invokevirtual 1057, 3) := dk_182 (by decide +kernel)
theorem dX12_truth_32 : decode cX12_truth 32 = .ok (.ireturn, 1) := dk_172 (by decide +kernel)
theorem dX12_truth_33 : decode cX12_truth 33 = .ok (.iload_n 1, 1) := dk_27 (by decide +kernel)
theorem dX12_truth_34 : decode cX12_truth 34 = .ok (.iconst 3, 1) := dk_6 (by decide +kernel)
theorem dX12_truth_35 : decode cX12_truth 35 = .ok (.if_icmp .ne 8, 3) := dk_160 (by decide +kernel)
theorem dX12_truth_38 : decode cX12_truth 38 = .ok (.aload_n 0, 1) := dk_42 (by decide +kernel)
theorem dX12_truth_39 : decode cX12_truth 39 = .ok (.invokevirtual 1060, 3) := dk_182 (by decide +kernel)
theorem dX12_truth_42 : decode cX12_truth 42 = .ok (.ireturn, 1) := dk_172 (by decide +kernel)
theorem dX12_truth_43 : decode cX12_truth 43 = .ok (.iload_n 1, 1) := dk_27 (by decide +kernel)
theorem dX12_truth_44 : decode cX12_truth 44 = .ok (.ifCond .eq 10, 3) := dk_153 (by decide +kernel)
theorem dX12_truth_47 : decode cX12_truth 47 = .ok (.iload_n 1, 1) := dk_27 (by decide +kernel)
theorem dX12_truth_48 : decode cX12_truth 48 = .ok (.iconst 1, 1) := dk_4 (by decide +kernel)
theorem dX12_truth_49 : decode cX12_truth 49 = .ok (.if_icmp .eq 5, 3) := dk_159 (by decide +kernel)
theorem dX12_truth_52 : decode cX12_truth 52 = .ok (.iconst (-1), 1) := dk_2 (by decide +kernel)
theorem dX12_truth_53 : decode cX12_truth 53 = .ok (.ireturn, 1) := dk_172 (by decide +kernel)
theorem dX12_truth_54 : decode cX12_truth 54 = .ok (.iconst (-1), 1) := dk_2 (by decide +kernel)
theorem dX12_truth_55 : decode cX12_truth 55 = .ok (.istore_n 2, 1) := dk_61 (by decide +kernel)
theorem dX12_truth_56 : decode cX12_truth 56 = .ok (.iconst (-1), 1) := dk_2 (by decide +kernel)
theorem dX12_truth_57 : decode cX12_truth 57 = .ok (.istore_n 3, 1) := dk_62 (by decide +kernel)
theorem dX12_truth_58 : decode cX12_truth 58 = .ok (.iconst 0, 1) := dk_3 (by decide +kernel)
theorem dX12_truth_59 : decode cX12_truth 59 = .ok (.istore 4, 2) := dk_54 (by decide +kernel)
theorem dX12_truth_61 : decode cX12_truth 61 = .ok (.iload 4, 2) := dk_21 (by decide +kernel)
theorem dX12_truth_63 : decode cX12_truth 63 = .ok (.sipush 4096, 3) := dk_17 (by decide +kernel)
theorem dX12_truth_66 : decode cX12_truth 66 = .ok (.if_icmp .ge 43, 3) := dk_162 (by decide +kernel)
theorem dX12_truth_69 : decode cX12_truth 69 = .ok (.aload_n 0, 1) := dk_42 (by decide +kernel)
theorem dX12_truth_70 : decode cX12_truth 70 = .ok (.iload 4, 2) := dk_21 (by decide +kernel)
theorem dX12_truth_72 : decode cX12_truth 72 = .ok (.invokevirtual 1063, 3) := dk_182 (by decide +kernel)
theorem dX12_truth_75 : decode cX12_truth 75 = .ok (.istore 5, 2) := dk_54 (by decide +kernel)
theorem dX12_truth_77 : decode cX12_truth 77 = .ok (.iload 5, 2) := dk_21 (by decide +kernel)
theorem dX12_truth_79 : decode cX12_truth 79 = .ok (.iconst (-1), 1) := dk_2 (by decide +kernel)
theorem dX12_truth_80 : decode cX12_truth 80 = .ok (.if_icmp .eq 23, 3) := dk_159 (by decide +kernel)
theorem dX12_truth_83 : decode cX12_truth 83 = .ok (.iload_n 2, 1) := dk_28 (by decide +kernel)
theorem dX12_truth_84 : decode cX12_truth 84 = .ok (.iconst (-1), 1) := dk_2 (by decide +kernel)
theorem dX12_truth_85 : decode cX12_truth 85 = .ok (.if_icmp .eq 12, 3) := dk_159 (by decide +kernel)
theorem dX12_truth_88 : decode cX12_truth 88 = .ok (.iload 5, 2) := dk_21 (by decide +kernel)
theorem dX12_truth_90 : decode cX12_truth 90 = .ok (.iload_n 2, 1) := dk_28 (by decide +kernel)
theorem dX12_truth_91 : decode cX12_truth 91 = .ok (.if_icmp .lt 6, 3) := dk_161 (by decide +kernel)
theorem dX12_truth_94 : decode cX12_truth 94 = .ok (.goto 9, 3) := dk_167 (by decide +kernel)
theorem dX12_truth_97 : decode cX12_truth 97 = .ok (.iload 5, 2) := dk_21 (by decide +kernel)
theorem dX12_truth_99 : decode cX12_truth 99 = .ok (.istore_n 2, 1) := dk_61 (by decide +kernel)
theorem dX12_truth_100 : decode cX12_truth 100 = .ok (.iload 4, 2) := dk_21 (by decide +kernel)
theorem dX12_truth_102 : decode cX12_truth 102 = .ok (.istore_n 3, 1) := dk_62 (by decide +kernel)
theorem dX12_truth_103 : decode cX12_truth 103 = .ok (.iinc 4 1, 3) := dk_132 (by decide +kernel)
theorem dX12_truth_106 : decode cX12_truth 106 = .ok (.goto (-45), 3) := dk_167 (by decide +kernel)
theorem dX12_truth_109 : decode cX12_truth 109 = .ok (.iload_n 1, 1) := dk_27 (by decide +kernel)
theorem dX12_truth_110 : decode cX12_truth 110 = .ok (.ifCond .ne 7, 3) := dk_154 (by decide +kernel)
theorem dX12_truth_113 : decode cX12_truth 113 = .ok (.iload_n 2, 1) := dk_28 (by decide +kernel)
theorem dX12_truth_114 : decode cX12_truth 114 = .ok (.goto 4, 3) := dk_167 (by decide +kernel)
theorem dX12_truth_117 : decode cX12_truth 117 = .ok (.iload_n 3, 1) := dk_29 (by decide +kernel)
theorem dX12_truth_118 : decode cX12_truth 118 = .ok (.ireturn, 1) := dk_172 (by decide +kernel)
def wsRX12_truth : List Cond := .code yX12_truth cX12_truth 6 (some .int) :: ([.fieldLink RX12 348 "OptimaWorksModel" "thrown" "I", .fieldLink RX12 1051 "OptimaWorksModel" "clauses" "I"] ++ wsX120 ++ (wsV RX12 1063 RX12 yX12_cost wsRX12_cost) ++ (wsV RX12 1060 RX12 yX12_core wsRX12_core) ++ (wsV RX12 1057 RX12 yX12_models wsRX12_models))
theorem iwsRX12_truth_in12 : ∀ w ∈ wsX120, w ∈ wsRX12_truth := fun _ h => List.mem_cons_of_mem _ (List.mem_append_left _ (List.mem_append_left _ (List.mem_append_left _ (List.mem_append_right _ h))))
theorem gwsRX12_truth_0 : GoodIn wsRX12_truth (wsV RX12 1063 RX12 yX12_cost wsRX12_cost) := goodIn_sub (fun _ h => List.mem_cons_of_mem _ (List.mem_append_left _ (List.mem_append_left _ (List.mem_append_right _ h)))) (gdV (by decide +kernel) gdwsRX12_cost)
theorem gwsRX12_truth_1 : GoodIn wsRX12_truth (wsV RX12 1060 RX12 yX12_core wsRX12_core) := goodIn_sub (fun _ h => List.mem_cons_of_mem _ (List.mem_append_left _ (List.mem_append_right _ h))) (gdV (by decide +kernel) gdwsRX12_core)
theorem gwsRX12_truth_2 : GoodIn wsRX12_truth (wsV RX12 1057 RX12 yX12_models wsRX12_models) := goodIn_sub (fun _ h => List.mem_cons_of_mem _ (List.mem_append_right _ h)) (gdV (by decide +kernel) gdwsRX12_models)
theorem gdwsRX12_truth : wsRX12_truth.all goodWord = true := gdC rfl (gdA (gdA (gdA (gdA (by decide +kernel : ([.fieldLink RX12 348 "OptimaWorksModel" "thrown" "I", .fieldLink RX12 1051 "OptimaWorksModel" "clauses" "I"] : List Cond).all goodWord = true) gdwsX120) (gdV (by decide +kernel) gdwsRX12_cost)) (gdV (by decide +kernel) gdwsRX12_core)) (gdV (by decide +kernel) gdwsRX12_models))
theorem hm_r_X12_truth_0 : (.fieldLink RX12 1051 "OptimaWorksModel" "clauses" "I" : Cond) ∈ wsRX12_truth := by decide +kernel
set_option maxHeartbeats 4000000 in
set_option maxRecDepth 100000 in
/-- truth(what) -/
theorem r_X12_truth (l : Launch) (dC : Nat → ClassId) (dI : Nat → Nat → Nat) (a : Nat → Nat) (k : Nat → ClassId) (h0 : Nat) (vi : Nat → Int32) (vj : Nat → Int64) (vF : Nat → Nat → Int32) (vG : Nat → Nat → Int64) (wI : Int32) (cl : Nat) (hcl : vi 146 = nI cl) (hcl24 : cl ≤ 24) (hCv : cVal (((cl : Nat) : Int), vF 92, vF 93, vF 94)) (sz : Nat) : Met l yX12_truth wsRX12_truth ({ frames := 3, cells := 0, slots := 0, locals := 69 }) (va_Pc [.ref h0, .int wI] (fun U => U.heap.size = sz ∧ va_P (dC, dI) vwCl (WR a k h0 vi vj vF vG) U.heap ∧ va_K (dC, dI) vwCl (tX12 k) U ∧ va_D (fun _ => True) (WR a k h0 vi vj vF vG))) (va_Qi (fun (r : Int32) (u : Unit) => (cTru (((cl : Nat) : Int), vF 92, vF 93, vF 94) (wI).toInt r)) (fun (u : Unit) t => va_P (dC, dI) vwCl (WR a k h0 (fT vi 0 0) vj vF vG) t.heap ∧ va_D (va_A (WR a k h0 vi vj vF vG) sz) (WR a k h0 (fT vi 0 0) vj vF vG)) (va_A (WR a k h0 vi vj vF vG) sz)) 0 0 (va_A (WR a k h0 vi vj vF vG) sz) := by
  refine Met.ofW (cc := cX12_truth) (maxL := 6) (ret := (some .int)) (by decide) rfl ?_
  intro p e s m args below meth c s₁ B hml hv
  obtain ⟨rfl, hsz, hP, hK, hD0⟩ := hv
  have hx := B.exec
  have hb := B.bytes
  have hr := B.returns
  have hts := atoms_spec (ws := wsRX12_truth) B.pre
  have hown : s.vm.findClass RX12 = some m.cls := findClass_of_methodNamed B.named
  have hlocks := B.notSynchronized
  subst hsz
  have hD := hD0.self (sz := s.heap.size)
  generalize hAe : va_A (WR a k h0 vi vj vF vG) s.heap.size = A at hD ⊢
  have hA : ∀ q : Nat, s.heap.size ≤ q → A q := fun q h => by rw [← hAe]; exact Or.inr h
  have hS : va_S A s.heap s.heap [] := va_S.rf
  have hl := lv_entry ([.ref h0, .int wI]) (n := 6) (Nat.le_of_ble_eq_true rfl)
  rw [lg_entry_eq]
  generalize (lg_sl ([.ref h0, .int wI]) ++ List.replicate (6 - (lg_sl ([.ref h0, .int wI])).length) Slot.unset).toArray = ls at hl ⊢
  have hl : lv_has ls 6 [(0, .ref h0), (1, .int wI)] := hl
  refine lv_aload_n hx hb dX12_truth_0 rfl (lv_at hl 0 rfl) ?_
  refine lv_iconst (v := 0) hx hb dX12_truth_1 (by decide) ?_
  refine va_put (D := (dC, dI)) (ci := 12) (v := .int 0) (ty := .int) (C := RX12) (T := TX12) (N := 163) (fs := fM (vS a vi vj)) hx hb hts iwsRX12_truth_in12 tyX12 tyX12_ok nmX12 hown hK hP hD hS 0 rfl rfl 0 (by decide) (hts (.fieldLink RX12 348 "OptimaWorksModel" "thrown" "I") (by decide +kernel)) (fun _ h9 => h9) rfl (by decide +kernel) rfl rfl (Nat.le_of_ble_eq_true rfl) dX12_truth_2 (fun H locs hP hD hS => ?_)
  have hP : va_P (dC, dI) vwCl (WR a k h0 (fT vi 0 0) vj vF vG) H := fz_w (WR_i 0 _ rfl) hP
  have hD : va_D A (WR a k h0 (fT vi 0 0) vj vF vG) := fz_wD (WR_i 0 _ rfl) hD
  refine lv_iload_n hx hb dX12_truth_5 rfl (lv_at hl 1 rfl) ?_
  refine lv_iconst (v := 4) hx hb dX12_truth_6 (by decide) ?_
  refine lv_icmp_ne (tgt := 15) hx hb dX12_truth_7 (by decide) (fun c_7 => ?_) (fun c_7 => ?_)
  · have t_7 : (wI).toInt ≠ 4 := toI_ne c_7 rfl (by decide)
    refine lv_iload_n hx hb dX12_truth_15 rfl (lv_at hl 1 rfl) ?_
    refine lv_iconst (v := 2) hx hb dX12_truth_16 (by decide) ?_
    refine lv_icmp_ne (tgt := 33) hx hb dX12_truth_17 (by decide) (fun c_17 => ?_) (fun c_17 => ?_)
    · have t_17 : (wI).toInt ≠ 2 := toI_ne c_17 rfl (by decide)
      refine lv_iload_n hx hb dX12_truth_33 rfl (lv_at hl 1 rfl) ?_
      refine lv_iconst (v := 3) hx hb dX12_truth_34 (by decide) ?_
      refine lv_icmp_ne (tgt := 43) hx hb dX12_truth_35 (by decide) (fun c_35 => ?_) (fun c_35 => ?_)
      · have t_35 : (wI).toInt ≠ 3 := toI_ne c_35 rfl (by decide)
        refine lv_iload_n hx hb dX12_truth_43 rfl (lv_at hl 1 rfl) ?_
        refine W.cut (pc := 54) (fun H locs ls stk => ((wI).toInt = 0 ∨ (wI).toInt = 1) ∧  stk = [] ∧ va_P (dC, dI) vwCl (WR a k h0 (fT vi 0 0) vj vF vG) H ∧ va_D A (WR a k h0 (fT vi 0 0) vj vF vG) ∧ va_S A s.heap H locs ∧ lv_has ls 6 [(0, .ref h0), (1, .int wI)]) (fun join1 => ?_) ?_
        · refine lv_if_eq (tgt := 54) hx hb dX12_truth_44 (by decide) (fun c_44 => ?_) (fun c_44 => ?_)
          · have t_44 : (wI).toInt = 0 := toI_eq c_44 rfl (by decide)
            have hl : lv_has _ _ ([(0, .ref h0), (1, .int wI)]) := lv_sub hl [0, 1] rfl
            exact join1 _ _ _ _ ⟨by omega, rfl, hP, hD, hS, hl⟩
          · have t_44 : ¬ (wI).toInt = 0 := toI_neq c_44 rfl (by decide)
            refine lv_iload_n hx hb dX12_truth_47 rfl (lv_at hl 1 rfl) ?_
            refine lv_iconst (v := 1) hx hb dX12_truth_48 (by decide) ?_
            refine lv_icmp_eq (tgt := 54) hx hb dX12_truth_49 (by decide) (fun c_49 => ?_) (fun c_49 => ?_)
            · have t_49 : (wI).toInt = 1 := toI_eq c_49 rfl (by decide)
              have hl : lv_has _ _ ([(0, .ref h0), (1, .int wI)]) := lv_sub hl [0, 1] rfl
              exact join1 _ _ _ _ ⟨by omega, rfl, hP, hD, hS, hl⟩
            · have t_49 : ¬ (wI).toInt = 1 := toI_neq c_49 rfl (by decide)
              refine lv_iconst (v := (-1)) hx hb dX12_truth_52 (by decide) ?_
              refine W.widen (k := 0) (n := 0) (by decide +kernel) (by decide +kernel) ?_
              exact W.iret (v := (-1)) hx hb hr (fun t9_ ht hW => ⟨⟨(-1), (), rfl, by (try dsimp only); exact Or.inr (Or.inr (Or.inr (Or.inr (Or.inr (⟨by omega, rfl⟩))))), by rw [ht]; exact hP, hD⟩, hS.F ht⟩) hS.2.2 dX12_truth_53
        · rintro H locs ls stk ⟨hw01, rfl, hP, hD, hS, hl⟩
          refine lv_iconst (v := (-1)) hx hb dX12_truth_54 (by decide) ?_
          refine lv_istore_n hx hb dX12_truth_55 rfl hl (by decide) rfl (fun ls (hl : lv_has ls _ ([(2, .int (-1)), (0, .ref h0), (1, .int wI)])) => ?_)
          refine lv_iconst (v := (-1)) hx hb dX12_truth_56 (by decide) ?_
          refine lv_istore_n hx hb dX12_truth_57 rfl hl (by decide) rfl (fun ls (hl : lv_has ls _ ([(3, .int (-1)), (2, .int (-1)), (0, .ref h0), (1, .int wI)])) => ?_)
          refine lv_iconst (v := 0) hx hb dX12_truth_58 (by decide) ?_
          refine lv_istore hx hb dX12_truth_59 hl (by decide) rfl (fun ls (hl : lv_has ls _ ([(4, .int 0), (3, .int (-1)), (2, .int (-1)), (0, .ref h0), (1, .int wI)])) => ?_)
          have hl : lv_has _ _ ([(0, .ref h0), (1, .int wI), (2, .int (-1)), (3, .int (-1)), (4, .int (nI 0))]) := lv_sub hl [3, 4, 2, 1, 0] rfl
          refine (fun (loop : ∀ (n9 : Nat) (t5 : Nat) (be : Int32) (ch : Int32) (H : Heap) (locs : List Loc) (ls : Array Slot), (t5 ≤ 4096) → (cBest (((cl : Nat) : Int), vF 92, vF 93, vF 94) t5 (be).toInt (ch).toInt) →  (4096 < t5 + n9) → va_P (dC, dI) vwCl (WR a k h0 (fT vi 0 0) vj vF vG) H → va_D A (WR a k h0 (fT vi 0 0) vj vF vG) → va_S A s.heap H locs → lv_has ls 6 [(0, .ref h0), (1, .int wI), (2, .int be), (3, .int ch), (4, .int (nI t5))] → W p l e _ s m _ below meth c H locs 0 0 _ (F0 m 61 ls [])) => loop (4097) 0 (-1) (-1) _ _ _ (by omega) (cBest.start (by decide) (by decide)) (by omega) hP hD hS hl) ?_
          intro n9
          induction n9 with
          | zero => intro t5 be ch H locs ls ht5 hBe hf9; exact False.elim (by omega)
          | succ n9 ih61 =>
            intro t5 be ch H locs ls ht5 hBe hf61 hP hD hS hl
            refine lv_iload hx hb dX12_truth_61 (lv_at hl 4 rfl) ?_
            refine lv_sipush (v := 4096) hx hb dX12_truth_63 (by decide) ?_
            refine lv_icmp_ge (tgt := 109) hx hb dX12_truth_66 (by decide) (fun c_66 => ?_) (fun c_66 => ?_)
            · have t_66 : ((t5 : Nat) : Int) ≥ 4096 := toI_ge c_66 (nI_toInt (by omega)) (by decide)
              refine lv_iload_n hx hb dX12_truth_109 rfl (lv_at hl 1 rfl) ?_
              refine lv_if_ne (tgt := 117) hx hb dX12_truth_110 (by decide) (fun c_110 => ?_) (fun c_110 => ?_)
              · have t_110 : (wI).toInt ≠ 0 := toI_ne c_110 rfl (by decide)
                refine lv_iload_n hx hb dX12_truth_117 rfl (lv_at hl 3 rfl) ?_
                refine W.widen (k := 0) (n := 0) (by decide +kernel) (by decide +kernel) ?_
                exact W.iret (v := ch) hx hb hr (fun t9_ ht hW => ⟨⟨ch, (), rfl, by (try dsimp only); (have e9 : t5 = 4096 := by omega); subst e9; first | exact Or.inl ⟨t_110, _, hBe⟩ | exact Or.inr (Or.inl ⟨by omega, _, hBe⟩), by rw [ht]; exact hP, hD⟩, hS.F ht⟩) hS.2.2 dX12_truth_118
              · have t_110 : (wI).toInt = 0 := toI_nne c_110 rfl (by decide)
                refine lv_iload_n hx hb dX12_truth_113 rfl (lv_at hl 2 rfl) ?_
                refine lv_goto (tgt := 118) hx hb dX12_truth_114 (by decide) ?_
                refine W.widen (k := 0) (n := 0) (by decide +kernel) (by decide +kernel) ?_
                exact W.iret (v := be) hx hb hr (fun t9_ ht hW => ⟨⟨be, (), rfl, by (try dsimp only); (have e9 : t5 = 4096 := by omega); subst e9; first | exact Or.inl ⟨t_110, _, hBe⟩ | exact Or.inr (Or.inl ⟨by omega, _, hBe⟩), by rw [ht]; exact hP, hD⟩, hS.F ht⟩) hS.2.2 dX12_truth_118
            · have t_66 : ¬ ((t5 : Nat) : Int) ≥ 4096 := toI_nge c_66 (nI_toInt (by omega)) (by decide)
              refine lv_aload_n hx hb dX12_truth_69 rfl (lv_at hl 0 rfl) ?_
              refine lv_iload hx hb dX12_truth_70 (lv_at hl 4 rfl) ?_
              have hFc := allFree hD hS hA
              refine va_calli (va_runV (As := [.int (nI t5)]) (rest := []) ⟨hx, hb, hml, hown, hts⟩ (r_X12_cost l dC dI a k h0 (fT vi 0 0) vj vF vG t5 cl hcl (by first | with_reducible assumption | decide | omega | rfl | assumption) (by first | with_reducible assumption | decide | omega | rfl | assumption) H.size) (cwV 1 hts gwsRX12_truth_0 rfl rfl rfl hd_yX12_cost_RX12 (by decide +kernel)) (fz_pre (va_recv hK hP (ci := 12) (q0 := 0) rfl rfl) hP hK hD) rfl rfl hl.1 rfl (lv_room (Nat.le_of_ble_eq_true rfl)) dX12_truth_72 (by decide +kernel)) hS (fun q _ h => hFc q h) hFc (fun r72 u t9_ H locs ht hvm hw9 hB9 hz1 hk1 hS => ?_)
              have hP : va_P (dC, dI) vwCl (WR a k h0 (fT vi 0 0) vj vF vG) H := fz_P ht hB9.1
              have hD := fz_sd hP (hB9.2.weaken (fun _ q _ h => hFc q.1 h)) rfl
              rcases hw9 with ⟨rfl, f72_0⟩ | ⟨f72_0, f72_1⟩
              · have f72_0 : ¬ cMust (((cl : Nat) : Int), (vF 92), (vF 93), (vF 94)) t5 cl := f72_0
                refine lv_istore hx hb dX12_truth_75 hl (by decide) rfl (fun ls (hl : lv_has ls _ ([(5, .int (-1)), (0, .ref h0), (1, .int wI), (2, .int be), (3, .int ch), (4, .int (nI t5))])) => ?_)
                refine lv_iload hx hb dX12_truth_77 (lv_at hl 0 rfl) ?_
                refine lv_iconst (v := (-1)) hx hb dX12_truth_79 (by decide) ?_
                refine lv_icmp_eq (tgt := 103) hx hb dX12_truth_80 (by decide) (fun _ => ?_) (fun c9 => absurd (by decide) c9)
                refine lv_iinc (v := (nI (t5 + 1))) hx hb dX12_truth_103 hl (k := 5) rfl (nI_add t5 1) (by decide) rfl (fun ls (hl : lv_has ls _ ([(4, .int (nI (t5 + 1))), (5, .int (-1)), (0, .ref h0), (1, .int wI), (2, .int be), (3, .int ch)])) => ?_)
                refine lv_goto (tgt := 61) hx hb dX12_truth_106 (by decide) ?_
                have hl : lv_has _ _ ([(0, .ref h0), (1, .int wI), (2, .int be), (3, .int ch), (4, .int (nI (t5 + 1)))]) := lv_sub hl [2, 3, 4, 5, 0] rfl
                exact ih61 (t5 + 1) be ch _ _ _ (by omega) (by first | exact cBest.no hBe (show ¬ cMust (((cl : Nat) : Int), vF 92, vF 93, vF 94) t5 cl from f72_0) | ((have hng := cBest.neg hCv hBe); (have hcs := (cSum.bd hCv t5 cl (by (try dsimp only); omega)).1); exfalso; omega) | ((have hng := cBest.neg hCv hBe); (have hcs := (cSum.bd hCv t5 cl (by (try dsimp only); omega)).1); exact cBest.keep hBe (by omega) (show ¬ cSum (((cl : Nat) : Int), vF 92, vF 93, vF 94) t5 cl < (be).toInt from by rw [← f72_1]; omega))) (by omega) hP hD hS hl
              · have f72_0 : cMust (((cl : Nat) : Int), (vF 92), (vF 93), (vF 94)) t5 cl := f72_0
                have f72_1 : r72.toInt = cSum (((cl : Nat) : Int), (vF 92), (vF 93), (vF 94)) t5 cl := f72_1
                refine lv_istore hx hb dX12_truth_75 hl (by decide) rfl (fun ls (hl : lv_has ls _ ([(5, .int r72), (0, .ref h0), (1, .int wI), (2, .int be), (3, .int ch), (4, .int (nI t5))])) => ?_)
                refine lv_iload hx hb dX12_truth_77 (lv_at hl 0 rfl) ?_
                refine lv_iconst (v := (-1)) hx hb dX12_truth_79 (by decide) ?_
                refine lv_icmp_eq (tgt := 103) hx hb dX12_truth_80 (by decide) (fun c_80 => ?_) (fun c_80 => ?_)
                · have t_80 : (r72).toInt = -1 := toI_eq c_80 rfl (by decide)
                  refine lv_iinc (v := (nI (t5 + 1))) hx hb dX12_truth_103 hl (k := 5) rfl (nI_add t5 1) (by decide) rfl (fun ls (hl : lv_has ls _ ([(4, .int (nI (t5 + 1))), (5, .int r72), (0, .ref h0), (1, .int wI), (2, .int be), (3, .int ch)])) => ?_)
                  refine lv_goto (tgt := 61) hx hb dX12_truth_106 (by decide) ?_
                  have hl : lv_has _ _ ([(0, .ref h0), (1, .int wI), (2, .int be), (3, .int ch), (4, .int (nI (t5 + 1)))]) := lv_sub hl [2, 3, 4, 5, 0] rfl
                  exact ih61 (t5 + 1) be ch _ _ _ (by omega) (by first | exact cBest.no hBe (show ¬ cMust (((cl : Nat) : Int), vF 92, vF 93, vF 94) t5 cl from f72_0) | ((have hng := cBest.neg hCv hBe); (have hcs := (cSum.bd hCv t5 cl (by (try dsimp only); omega)).1); exfalso; omega) | ((have hng := cBest.neg hCv hBe); (have hcs := (cSum.bd hCv t5 cl (by (try dsimp only); omega)).1); exact cBest.keep hBe (by omega) (show ¬ cSum (((cl : Nat) : Int), vF 92, vF 93, vF 94) t5 cl < (be).toInt from by rw [← f72_1]; omega))) (by omega) hP hD hS hl
                · have t_80 : ¬ (r72).toInt = -1 := toI_neq c_80 rfl (by decide)
                  refine lv_iload_n hx hb dX12_truth_83 rfl (lv_at hl 3 rfl) ?_
                  refine lv_iconst (v := (-1)) hx hb dX12_truth_84 (by decide) ?_
                  refine lv_icmp_eq (tgt := 97) hx hb dX12_truth_85 (by decide) (fun c_85 => ?_) (fun c_85 => ?_)
                  · have t_85 : (be).toInt = -1 := toI_eq c_85 rfl (by decide)
                    refine lv_iload hx hb dX12_truth_97 (lv_at hl 0 rfl) ?_
                    refine lv_istore_n hx hb dX12_truth_99 rfl hl (by decide) rfl (fun ls (hl : lv_has ls _ ([(2, .int r72), (5, .int r72), (0, .ref h0), (1, .int wI), (3, .int ch), (4, .int (nI t5))])) => ?_)
                    refine lv_iload hx hb dX12_truth_100 (lv_at hl 5 rfl) ?_
                    refine lv_istore_n hx hb dX12_truth_102 rfl hl (by decide) rfl (fun ls (hl : lv_has ls _ ([(3, .int (nI t5)), (2, .int r72), (5, .int r72), (0, .ref h0), (1, .int wI), (4, .int (nI t5))])) => ?_)
                    refine lv_iinc (v := (nI (t5 + 1))) hx hb dX12_truth_103 hl (k := 5) rfl (nI_add t5 1) (by decide) rfl (fun ls (hl : lv_has ls _ ([(4, .int (nI (t5 + 1))), (3, .int (nI t5)), (2, .int r72), (5, .int r72), (0, .ref h0), (1, .int wI)])) => ?_)
                    refine lv_goto (tgt := 61) hx hb dX12_truth_106 (by decide) ?_
                    have hl : lv_has _ _ ([(0, .ref h0), (1, .int wI), (2, .int r72), (3, .int (nI t5)), (4, .int (nI (t5 + 1)))]) := lv_sub hl [4, 5, 2, 1, 0] rfl
                    exact ih61 (t5 + 1) r72 (nI t5) _ _ _ (by omega) (by (have hng := cBest.neg hCv hBe); (have hcs := (cSum.bd hCv t5 cl (by (try dsimp only); omega)).1); exact cBest.take hBe (show cMust (((cl : Nat) : Int), vF 92, vF 93, vF 94) t5 cl from f72_0) f72_1 (by rw [nI_toInt (by omega)]) (by omega)) (by omega) hP hD hS hl
                  · have t_85 : ¬ (be).toInt = -1 := toI_neq c_85 rfl (by decide)
                    refine lv_iload hx hb dX12_truth_88 (lv_at hl 0 rfl) ?_
                    refine lv_iload_n hx hb dX12_truth_90 rfl (lv_at hl 3 rfl) ?_
                    refine lv_icmp_lt (tgt := 97) hx hb dX12_truth_91 (by decide) (fun c_91 => ?_) (fun c_91 => ?_)
                    · have t_91 : (r72).toInt < (be).toInt := toI_lt c_91 rfl rfl
                      refine lv_iload hx hb dX12_truth_97 (lv_at hl 0 rfl) ?_
                      refine lv_istore_n hx hb dX12_truth_99 rfl hl (by decide) rfl (fun ls (hl : lv_has ls _ ([(2, .int r72), (5, .int r72), (0, .ref h0), (1, .int wI), (3, .int ch), (4, .int (nI t5))])) => ?_)
                      refine lv_iload hx hb dX12_truth_100 (lv_at hl 5 rfl) ?_
                      refine lv_istore_n hx hb dX12_truth_102 rfl hl (by decide) rfl (fun ls (hl : lv_has ls _ ([(3, .int (nI t5)), (2, .int r72), (5, .int r72), (0, .ref h0), (1, .int wI), (4, .int (nI t5))])) => ?_)
                      refine lv_iinc (v := (nI (t5 + 1))) hx hb dX12_truth_103 hl (k := 5) rfl (nI_add t5 1) (by decide) rfl (fun ls (hl : lv_has ls _ ([(4, .int (nI (t5 + 1))), (3, .int (nI t5)), (2, .int r72), (5, .int r72), (0, .ref h0), (1, .int wI)])) => ?_)
                      refine lv_goto (tgt := 61) hx hb dX12_truth_106 (by decide) ?_
                      have hl : lv_has _ _ ([(0, .ref h0), (1, .int wI), (2, .int r72), (3, .int (nI t5)), (4, .int (nI (t5 + 1)))]) := lv_sub hl [4, 5, 2, 1, 0] rfl
                      exact ih61 (t5 + 1) r72 (nI t5) _ _ _ (by omega) (by (have hng := cBest.neg hCv hBe); (have hcs := (cSum.bd hCv t5 cl (by (try dsimp only); omega)).1); exact cBest.take hBe (show cMust (((cl : Nat) : Int), vF 92, vF 93, vF 94) t5 cl from f72_0) f72_1 (by rw [nI_toInt (by omega)]) (by omega)) (by omega) hP hD hS hl
                    · have t_91 : ¬ (r72).toInt < (be).toInt := toI_nlt c_91 rfl rfl
                      refine lv_goto (tgt := 103) hx hb dX12_truth_94 (by decide) ?_
                      refine lv_iinc (v := (nI (t5 + 1))) hx hb dX12_truth_103 hl (k := 5) rfl (nI_add t5 1) (by decide) rfl (fun ls (hl : lv_has ls _ ([(4, .int (nI (t5 + 1))), (5, .int r72), (0, .ref h0), (1, .int wI), (2, .int be), (3, .int ch)])) => ?_)
                      refine lv_goto (tgt := 61) hx hb dX12_truth_106 (by decide) ?_
                      have hl : lv_has _ _ ([(0, .ref h0), (1, .int wI), (2, .int be), (3, .int ch), (4, .int (nI (t5 + 1)))]) := lv_sub hl [2, 3, 4, 5, 0] rfl
                      exact ih61 (t5 + 1) be ch _ _ _ (by omega) (by first | exact cBest.no hBe (show ¬ cMust (((cl : Nat) : Int), vF 92, vF 93, vF 94) t5 cl from f72_0) | ((have hng := cBest.neg hCv hBe); (have hcs := (cSum.bd hCv t5 cl (by (try dsimp only); omega)).1); exfalso; omega) | ((have hng := cBest.neg hCv hBe); (have hcs := (cSum.bd hCv t5 cl (by (try dsimp only); omega)).1); exact cBest.keep hBe (by omega) (show ¬ cSum (((cl : Nat) : Int), vF 92, vF 93, vF 94) t5 cl < (be).toInt from by rw [← f72_1]; omega))) (by omega) hP hD hS hl
      · have t_35 : (wI).toInt = 3 := toI_nne c_35 rfl (by decide)
        refine lv_aload_n hx hb dX12_truth_38 rfl (lv_at hl 0 rfl) ?_
        have hFc := allFree hD hS hA
        refine va_calli (va_runV (As := []) (rest := []) ⟨hx, hb, hml, hown, hts⟩ (r_X12_core l dC dI a k h0 (fT vi 0 0) vj vF vG cl hcl (by first | with_reducible assumption | decide | omega | rfl | assumption) H.size) (cwV 0 hts gwsRX12_truth_1 rfl rfl rfl hd_yX12_core_RX12 (by decide +kernel)) (fz_pre (va_recv hK hP (ci := 12) (q0 := 0) rfl rfl) hP hK hD) rfl rfl hl.1 rfl (lv_room (Nat.le_of_ble_eq_true rfl)) dX12_truth_39 (by decide +kernel)) hS (fun q _ h => hFc q h) hFc (fun r39 u t9_ H locs ht hvm hw9 hB9 hz1 hk1 hS => ?_)
        have hP : va_P (dC, dI) vwCl (WR a k h0 (fT vi 0 0) vj vF vG) H := fz_P ht hB9.1
        have hD := fz_sd hP (hB9.2.weaken (fun _ q _ h => hFc q.1 h)) rfl
        rcases hw9 with ⟨rfl, f39_0⟩ | ⟨f39_0, f39_1⟩
        · have f39_0 : cCan (((cl : Nat) : Int), (vF 92), (vF 93), (vF 94)) (cFull cl) := f39_0
          refine W.widen (k := 0) (n := 0) (by decide +kernel) (by decide +kernel) ?_
          exact W.iret (v := 0) hx hb hr (fun t9_ ht hW => ⟨⟨0, (), rfl, by (try dsimp only); first | exact Or.inr (Or.inr (Or.inr (Or.inl ⟨t_35, Or.inl ⟨f39_0, rfl⟩⟩))) | exact Or.inr (Or.inr (Or.inr (Or.inl ⟨t_35, Or.inr ⟨f39_0, f39_1⟩⟩))), by rw [ht]; exact hP, hD⟩, hS.F ht⟩) hS.2.2 dX12_truth_42
        · have f39_0 : ¬ cCan (((cl : Nat) : Int), (vF 92), (vF 93), (vF 94)) (cFull cl) := f39_0
          have f39_1 : cCore (((cl : Nat) : Int), (vF 92), (vF 93), (vF 94)) cl (cFull cl) r39 := f39_1
          refine W.widen (k := 0) (n := 0) (by decide +kernel) (by decide +kernel) ?_
          exact W.iret (v := r39) hx hb hr (fun t9_ ht hW => ⟨⟨r39, (), rfl, by (try dsimp only); first | exact Or.inr (Or.inr (Or.inr (Or.inl ⟨t_35, Or.inl ⟨f39_0, rfl⟩⟩))) | exact Or.inr (Or.inr (Or.inr (Or.inl ⟨t_35, Or.inr ⟨f39_0, f39_1⟩⟩))), by rw [ht]; exact hP, hD⟩, hS.F ht⟩) hS.2.2 dX12_truth_42
    · have t_17 : (wI).toInt = 2 := toI_nne c_17 rfl (by decide)
      refine lv_aload_n hx hb dX12_truth_20 rfl (lv_at hl 0 rfl) ?_
      refine lv_iconst (v := 1) hx hb dX12_truth_21 (by decide) ?_
      refine lv_aload_n hx hb dX12_truth_22 rfl (lv_at hl 0 rfl) ?_
      refine va_get (D := (dC, dI)) (ci := 12) (v := .int (vi 146)) (C := RX12) (T := TX12) (N := 163) (fs := fM (vS a (fT vi 0 0) vj)) hx hb hts iwsRX12_truth_in12 hown hK hP 0 rfl rfl 146 (by decide) (hts _ hm_r_X12_truth_0) (fun _ h9 => h9) rfl dX12_truth_23 ?_
      refine lv_topi (fun y1 hy1 => ?_)
      obtain rfl : (nI cl) = y1 := (hy1.trans (hcl)).symm
      refine lv_ishl hx hb dX12_truth_26 ?_
      refine lv_iconst (v := 1) hx hb dX12_truth_27 (by decide) ?_
      refine lv_isub hx hb dX12_truth_28 ?_
      have hFc := allFree hD hS hA
      refine va_calli (va_runV (As := [.int ((1 <<< ((nI cl) &&& 31)) - 1)]) (rest := []) ⟨hx, hb, hml, hown, hts⟩ (r_X12_models l dC dI a k h0 (fT vi 0 0) vj vF vG ((1 <<< ((nI cl) &&& 31)) - 1) cl hcl (by first | with_reducible assumption | decide | omega | rfl | assumption) H.size) (cwV 1 hts gwsRX12_truth_2 rfl rfl rfl hd_yX12_models_RX12 (by decide +kernel)) (fz_pre (va_recv hK hP (ci := 12) (q0 := 0) rfl rfl) hP hK hD) rfl rfl hl.1 rfl (lv_room (Nat.le_of_ble_eq_true rfl)) dX12_truth_29 (by decide +kernel)) hS (fun q _ h => hFc q h) hFc (fun r29 u t9_ H locs ht hvm hw9 hB9 hz1 hk1 hS => ?_)
      have hP : va_P (dC, dI) vwCl (WR a k h0 (fT vi 0 0) vj vF vG) H := fz_P ht hB9.1
      have hD := fz_sd hP (hB9.2.weaken (fun _ q _ h => hFc q.1 h)) rfl
      have f29_0 := hw9
      try dsimp only at f29_0
      have f29_0 : r29.toInt = ((cMods (((cl : Nat) : Int), (vF 92), (vF 93), (vF 94)) ((1 <<< ((nI cl) &&& 31)) - 1) : Nat) : Int) := f29_0
      refine W.widen (k := 0) (n := 0) (by decide +kernel) (by decide +kernel) ?_
      exact W.iret (v := r29) hx hb hr (fun t9_ ht hW => ⟨⟨r29, (), rfl, by (try dsimp only); exact Or.inr (Or.inr (Or.inl ⟨t_17, f29_0⟩)), by rw [ht]; exact hP, hD⟩, hS.F ht⟩) hS.2.2 dX12_truth_32
  · have t_7 : (wI).toInt = 4 := toI_nne c_7 rfl (by decide)
    refine lv_aload_n hx hb dX12_truth_10 rfl (lv_at hl 0 rfl) ?_
    refine va_get (D := (dC, dI)) (ci := 12) (v := .int (vi 146)) (C := RX12) (T := TX12) (N := 163) (fs := fM (vS a (fT vi 0 0) vj)) hx hb hts iwsRX12_truth_in12 hown hK hP 0 rfl rfl 146 (by decide) (hts _ hm_r_X12_truth_0) (fun _ h9 => h9) rfl dX12_truth_11 ?_
    refine lv_topi (fun y2 hy2 => ?_)
    obtain rfl : (nI cl) = y2 := (hy2.trans (hcl)).symm
    refine W.widen (k := 0) (n := 0) (by decide +kernel) (by decide +kernel) ?_
    exact W.iret (v := (nI cl)) hx hb hr (fun t9_ ht hW => ⟨⟨(nI cl), (), rfl, by (try dsimp only); exact Or.inr (Or.inr (Or.inr (Or.inr (Or.inl ⟨t_7, by rw [nI_toInt (by omega)]⟩)))), by rw [ht]; exact hP, hD⟩, hS.F ht⟩) hS.2.2 dX12_truth_14
end
section
/-- who takes a value: holders below i, none of them twice -/
def TkB (tk : Nat → Int32) (i : Nat) : Prop := (∀ v, v < 16 → tk v = -1 ∨ ∃ h, h < i ∧ tk v = nI h) ∧ ∀ v w, v < 16 → w < 16 → tk v = tk w → tk v ≠ -1 → v = w
theorem nI_nm1 {h : Nat} (hh : h < 2 ^ 31) : nI h ≠ -1 := fun e => by
  have h1 := nI_toInt hh
  rw [e] at h1
  have h2 : ((-1 : Int32)).toInt = -1 := by decide
  omega
/-- the search: what was looked at, each for a value that is taken and that was come to from an earlier one -/
def Bfs (tk cm lk : Nat → Int32) (i M : Nat) : Prop := lk 0 = nI i ∧ (∀ a b, a < b → b < M → lk a ≠ lk b) ∧ (∀ q, 0 < q → q < M → ∃ v q', v < 16 ∧ q' < q ∧ tk v = lk q ∧ cm v = lk q') ∧ ∀ q, q < M → ∃ h, h < 10 ∧ lk q = nI h ∧ (0 < q → h < i)
theorem Bfs.init {tk cm lk : Nat → Int32} {i : Nat} (hi : i < 10) (h : lk 0 = nI i) : Bfs tk cm lk i 1 :=
  ⟨h, fun a b h1 h2 => absurd h1 (by omega), fun q h1 h2 => absurd h1 (by omega), fun q hq => by
    have : q = 0 := by omega
    subst this; exact ⟨i, hi, h, fun h9 => absurd h9 (by omega)⟩⟩
theorem Bfs.mark {tk cm cm2 lk : Nat → Int32} {i M v : Nat} (h : Bfs tk cm lk i M) (hv : cm v = -1) (e : ∀ w, w ≠ v → cm2 w = cm w) : Bfs tk cm2 lk i M :=
  ⟨h.1, h.2.1, fun q h1 h2 => by
    obtain ⟨v', q', k1, k2, k3, k4⟩ := h.2.2.1 q h1 h2
    refine ⟨v', q', k1, k2, k3, ?_⟩
    rw [e v' (fun e9 => by
      obtain ⟨h9, h8, h7, _⟩ := h.2.2.2 q' (by omega)
      rw [e9, hv, h7] at k4
      exact nI_nm1 (by omega) k4.symm)]
    exact k4, h.2.2.2⟩
theorem Bfs.push {tk cm cm2 lk lk2 : Nat → Int32} {i M v k : Nat} (h : Bfs tk cm lk i M) (hT : TkB tk i) (hi : i < 10) (hv16 : v < 16) (hv : cm v = -1) (ht : tk v ≠ -1) (hk : k < M) (e : ∀ w, w ≠ v → cm2 w = cm w) (e1 : cm2 v = lk k) (e2 : ∀ q, q < M → lk2 q = lk q) (e3 : lk2 M = tk v) : Bfs tk cm2 lk2 i (M + 1) := by
  obtain ⟨h9, hh9, eh9⟩ := (hT.1 v hv16).resolve_left ht
  have hM : 0 < M := by omega
  refine ⟨by rw [e2 0 hM]; exact h.1, fun a b h1 h2 => ?_, fun q h1 h2 => ?_, fun q hq => ?_⟩
  · by_cases eb : b = M
    · subst eb
      rw [e2 a h1, e3, eh9]
      by_cases ea : a = 0
      · subst ea; rw [h.1]; intro e9
        have := (nI_eq (by omega) (by omega)).mp e9; omega
      · obtain ⟨v', q', k1, k2, k3, k4⟩ := h.2.2.1 a (by omega) h1
        intro e9
        rw [← k3, ← eh9] at e9
        have hne : tk v' ≠ -1 := by rw [e9]; exact ht
        have := hT.2 v' v k1 hv16 e9 hne
        subst this
        obtain ⟨h8, h7, h6, _⟩ := h.2.2.2 q' (by omega)
        rw [hv, h6] at k4
        exact nI_nm1 (by omega) k4.symm
    · rw [e2 a (by omega), e2 b (by omega)]; exact h.2.1 a b h1 (by omega)
  · by_cases eq : q = M
    · subst eq
      exact ⟨v, k, hv16, hk, e3.symm, by rw [e1, e2 k hk]⟩
    · obtain ⟨v', q', k1, k2, k3, k4⟩ := (h.mark hv e).2.2.1 q h1 (by omega)
      exact ⟨v', q', k1, k2, by rw [e2 q (by omega)]; exact k3, by rw [e2 q' (by omega)]; exact k4⟩
  · by_cases eq : q = M
    · subst eq; exact ⟨h9, by omega, by rw [e3, eh9], fun _ => hh9⟩
    · rw [e2 q (by omega)]; exact h.2.2.2 q (by omega)
/-- how many values were come to -/
def nvs (cm : Nat → Int32) : Nat → Nat
  | 0 => 0
  | n + 1 => nvs cm n + (if cm n = -1 then 0 else 1)
theorem nvs_le (cm : Nat → Int32) : ∀ n, nvs cm n ≤ n := by
  intro n
  induction n with
  | zero => exact Nat.le_refl _
  | succ n ih => simp only [nvs]; split <;> omega
theorem nvs_congr {cm cm2 : Nat → Int32} : ∀ n, (∀ w, w < n → cm2 w = cm w) → nvs cm2 n = nvs cm n := by
  intro n
  induction n with
  | zero => intro _; rfl
  | succ n ih => intro h; simp only [nvs]; rw [ih (fun w hw => h w (by omega)), h n (by omega)]
theorem nvs_up {cm cm2 : Nat → Int32} {v : Nat} (hv : cm v = -1) (h2 : cm2 v ≠ -1) (e : ∀ w, w ≠ v → cm2 w = cm w) : ∀ n, v < n → nvs cm2 n = nvs cm n + 1 := by
  intro n
  induction n with
  | zero => intro h; omega
  | succ n ih =>
    intro h
    simp only [nvs]
    by_cases e9 : v = n
    · subst e9; rw [nvs_congr v (fun w hw => e w (by omega)), if_neg h2, if_pos hv]
    · rw [ih (by omega), e n (by omega)]; omega
/-- the chain back: each below q is taken by a value that was come to from an earlier one -/
def Chn (tk cm lk : Nat → Int32) (i q : Nat) : Prop := lk 0 = nI i ∧ (∀ a b, a < b → b ≤ q → lk a ≠ lk b) ∧ ∀ p, 0 < p → p ≤ q → ∃ v p', v < 16 ∧ p' < p ∧ tk v = lk p ∧ cm v = lk p' ∧ tk v ≠ -1
theorem Bfs.chn {tk cm lk : Nat → Int32} {i M q : Nat} (h : Bfs tk cm lk i M) (hq : q < M) : Chn tk cm lk i q :=
  ⟨h.1, fun a b h1 h2 => h.2.1 a b h1 (by omega), fun p h1 h2 => by
    obtain ⟨v, p', k1, k2, k3, k4⟩ := h.2.2.1 p h1 (by omega)
    obtain ⟨h9, h8, h7, _⟩ := h.2.2.2 p (by omega)
    exact ⟨v, p', k1, k2, k3, k4, by rw [k3, h7]; exact nI_nm1 (by omega)⟩⟩
/-- one step of the way back: the one who took w takes v -/
theorem Chn.step {tk tk2 cm lk : Nat → Int32} {i q v w : Nat} (h : Chn tk cm lk i q) (hT : TkB tk i) (hv : v < 16) (hw : w < 16) (hv0 : tk v = -1) (hq : 0 < q) (hwq : tk w = lk q) (hw1 : tk w ≠ -1) (e1 : tk2 v = lk q) (e2 : tk2 w = -1) (e3 : ∀ x, x ≠ v → x ≠ w → tk2 x = tk x) :
    TkB tk2 i ∧ ∃ q', q' < q ∧ cm w = lk q' ∧ Chn tk2 cm lk i q' := by
  have hvw : v ≠ w := fun e => hw1 (by rw [← e]; exact hv0)
  obtain ⟨v1, p1, k1, k2, k3, k4, k5⟩ := h.2.2 q hq (Nat.le_refl _)
  have ev : v1 = w := hT.2 v1 w k1 hw (by rw [k3, hwq]) k5
  subst ev
  refine ⟨⟨fun x hx => ?_, fun x y hx hy e hne => ?_⟩, p1, k2, k4, h.1, fun a b h1 h2 => h.2.1 a b h1 (by omega), fun p h1 h2 => ?_⟩
  · by_cases xa : x = v
    · subst xa; rw [e1, ← k3]; exact (hT.1 v1 k1).imp (fun h9 => absurd h9 hw1) id
    · by_cases xb : x = v1
      · subst xb; exact Or.inl e2
      · rw [e3 x xa xb]; exact hT.1 x hx
  · by_cases xa : x = v
    · subst xa
      by_cases ya : y = x
      · exact ya.symm
      · exfalso
        by_cases yb : y = v1
        · subst yb; rw [e2] at e; exact hne e
        · rw [e3 y ya yb, e1, ← k3] at e
          exact yb (hT.2 v1 y k1 hy e hw1).symm
    · by_cases xb : x = v1
      · subst xb; exact absurd e2 hne
      · rw [e3 x xa xb] at e hne
        by_cases ya : y = v
        · subst ya; exfalso; rw [e1, ← k3] at e
          exact xb (hT.2 x v1 hx k1 e hne)
        · by_cases yb : y = v1
          · subst yb; rw [e2] at e; exact absurd e hne
          · rw [e3 y ya yb] at e; exact hT.2 x y hx hy e hne
  · obtain ⟨v2, p2, j1, j2, j3, j4, j5⟩ := h.2.2 p h1 (by omega)
    have a1 : v2 ≠ v := fun e9 => j5 (by rw [e9]; exact hv0)
    have a2 : v2 ≠ v1 := fun e9 => h.2.1 p q (by omega) (Nat.le_refl _) (by rw [← j3, e9]; exact k3)
    exact ⟨v2, p2, j1, j2, by rw [e3 v2 a1 a2]; exact j3, j4, by rw [e3 v2 a1 a2]; exact j5⟩
theorem TkB.last {tk tk2 : Nat → Int32} {i v : Nat} (hT : TkB tk i) (hi : i < 2 ^ 31) (hv : v < 16) (e1 : tk2 v = nI i) (e3 : ∀ x, x ≠ v → tk2 x = tk x) : TkB tk2 (i + 1) := by
  refine ⟨fun x hx => ?_, fun x y hx hy e hne => ?_⟩
  · by_cases xa : x = v
    · subst xa; exact Or.inr ⟨i, by omega, e1⟩
    · rw [e3 x xa]; exact (hT.1 x hx).imp id (fun ⟨h, h1, h2⟩ => ⟨h, by omega, h2⟩)
  · have key : ∀ z, z < 16 → z ≠ v → tk z ≠ nI i := fun z hz _ e9 => by
      rcases hT.1 z hz with h9 | ⟨h, h1, h2⟩
      · rw [e9] at h9; exact nI_nm1 hi h9
      · rw [e9] at h2; have := (nI_eq (by omega) (by omega)).mp h2; omega
    by_cases xa : x = v
    · subst xa
      by_cases ya : y = x
      · exact ya.symm
      · rw [e1, e3 y ya] at e; exact absurd e.symm (key y hy ya)
    · rw [e3 x xa] at e hne
      by_cases ya : y = v
      · subst ya; rw [e1] at e; exact absurd e (key x hx xa)
      · rw [e3 y ya] at e; exact hT.2 x y hx hy e hne
theorem TkB.fresh {tk : Nat → Int32} {i : Nat} (hT : TkB tk i) (hi : i < 2 ^ 31) {v : Nat} (hv : v < 16) : tk v ≠ nI i := fun e9 => by
  rcases hT.1 v hv with h9 | ⟨h, h1, h2⟩
  · rw [e9] at h9; exact nI_nm1 hi h9
  · rw [e9] at h2; have := (nI_eq (by omega) (by omega)).mp h2; omega
theorem TkB.up {tk : Nat → Int32} {i : Nat} (hT : TkB tk i) : TkB tk (i + 1) := ⟨fun v hv => (hT.1 v hv).imp id (fun ⟨h, h1, h2⟩ => ⟨h, by omega, h2⟩), hT.2⟩
end
section
theorem hd_yX12_move_RX12 : yX12_move.cls = RX12 ∧ yX12_move.cls ≠ "java/lang/invoke/MethodHandle" ∧ yX12_move.cls ≠ "java/lang/invoke/VarHandle" ∧ (parseMethodDescriptor yX12_move.desc).map (fun d => d.parameters.length) = some 2 := by decide +kernel
theorem hd_yX12_finds_RX12 : yX12_finds.cls = RX12 ∧ yX12_finds.cls ≠ "java/lang/invoke/MethodHandle" ∧ yX12_finds.cls ≠ "java/lang/invoke/VarHandle" ∧ (parseMethodDescriptor yX12_finds.desc).map (fun d => d.parameters.length) = some 1 := by decide +kernel
theorem dX12_move_0 : decode cX12_move 0 = .ok (.iload_n 2, 1) := dk_28 (by decide +kernel)
theorem dX12_move_1 : decode cX12_move 1 = .ok (.istore_n 3, 1) := dk_62 (by decide +kernel)
theorem dX12_move_2 : decode cX12_move 2 = .ok (.iconst 1, 1) := dk_4 (by decide +kernel)
theorem dX12_move_3 : decode cX12_move 3 = .ok (.istore 4, 2) := dk_54 (by decide +kernel)
theorem dX12_move_5 : decode cX12_move 5 = .ok (.iload 4, 2) := dk_21 (by decide +kernel)
theorem dX12_move_7 : decode cX12_move 7 = .ok (.ifCond .eq 87, 3) := dk_153 (by decide +kernel)
theorem dX12_move_10 : decode cX12_move 10 = .ok (.aload_n 0, 1) := dk_42 (by decide +kernel)
theorem dX12_move_11 : decode cX12_move 11 = .ok (.getfield 287, 3) := dk_180 (by decide +kernel)
theorem dX12_move_14 : decode cX12_move 14 = .ok (.iload_n 3, 1) := dk_29 (by decide +kernel)
theorem dX12_move_15 : decode cX12_move 15 = .ok (.iaload, 1) := dk_46 (by decide +kernel)
theorem dX12_move_16 : decode cX12_move 16 = .ok (.istore 5, 2) := dk_54 (by decide +kernel)
theorem dX12_move_18 : decode cX12_move 18 = .ok (.iconst (-1), 1) := dk_2 (by decide +kernel)
theorem dX12_move_19 : decode cX12_move 19 = .ok (.istore 6, 2) := dk_54 (by decide +kernel)
theorem dX12_move_21 : decode cX12_move 21 = .ok (.iconst 0, 1) := dk_3 (by decide +kernel)
theorem dX12_move_22 : decode cX12_move 22 = .ok (.istore 7, 2) := dk_54 (by decide +kernel)
theorem dX12_move_24 : decode cX12_move 24 = .ok (.iload 7, 2) := dk_21 (by decide +kernel)
theorem dX12_move_26 : decode cX12_move 26 = .ok (.bipush 16, 2) := dk_16 (by decide +kernel)
theorem dX12_move_28 : decode cX12_move 28 = .ok (.if_icmp .ge 25, 3) := dk_162 (by decide +kernel)
theorem dX12_move_31 : decode cX12_move 31 = .ok (.aload_n 0, 1) := dk_42 (by decide +kernel)
theorem dX12_move_32 : decode cX12_move 32 = .ok (.getfield 284, 3) := dk_180 (by decide +kernel)
theorem dX12_move_35 : decode cX12_move 35 = .ok (.iload 7, 2) := dk_21 (by decide +kernel)
theorem dX12_move_37 : decode cX12_move 37 = .ok (.iaload, 1) := dk_46 (by decide +kernel)
theorem dX12_move_38 : decode cX12_move 38 = .ok (.iload 5, 2) := dk_21 (by decide +kernel)
theorem dX12_move_40 : decode cX12_move 40 = .ok (.if_icmp .ne 7, 3) := dk_160 (by decide +kernel)
theorem dX12_move_43 : decode cX12_move 43 = .ok (.iload 7, 2) := dk_21 (by decide +kernel)
theorem dX12_move_45 : decode cX12_move 45 = .ok (.istore 6, 2) := dk_54 (by decide +kernel)
theorem dX12_move_47 : decode cX12_move 47 = .ok (.iinc 7 1, 3) := dk_132 (by decide +kernel)
theorem dX12_move_50 : decode cX12_move 50 = .ok (.goto (-26), 3) := dk_167 (by decide +kernel)
theorem dX12_move_53 : decode cX12_move 53 = .ok (.aload_n 0, 1) := dk_42 (by decide +kernel)
theorem dX12_move_54 : decode cX12_move 54 = .ok (.getfield 284, 3) := dk_180 (by decide +kernel)
theorem dX12_move_57 : decode cX12_move 57 = .ok (.iload_n 3, 1) := dk_29 (by decide +kernel)
theorem dX12_move_58 : decode cX12_move 58 = .ok (.iload 5, 2) := dk_21 (by decide +kernel)
theorem dX12_move_60 : decode cX12_move 60 = .ok (.iastore, 1) := dk_79 (by decide +kernel)
theorem dX12_move_61 : decode cX12_move 61 = .ok (.iload 6, 2) := dk_21 (by decide +kernel)
theorem dX12_move_63 : decode cX12_move 63 = .ok (.iconst (-1), 1) := dk_2 (by decide +kernel)
theorem dX12_move_64 : decode cX12_move 64 = .ok (.if_icmp .eq 11, 3) := dk_159 (by decide +kernel)
theorem dX12_move_67 : decode cX12_move 67 = .ok (.aload_n 0, 1) := dk_42 (by decide +kernel)
theorem dX12_move_68 : decode cX12_move 68 = .ok (.getfield 284, 3) := dk_180 (by decide +kernel)
theorem dX12_move_71 : decode cX12_move 71 = .ok (.iload 6, 2) := dk_21 (by decide +kernel)
theorem dX12_move_73 : decode cX12_move 73 = .ok (.iconst (-1), 1) := dk_2 (by decide +kernel)
theorem dX12_move_74 : decode cX12_move 74 = .ok (.iastore, 1) := dk_79 (by decide +kernel)
theorem dX12_move_75 : decode cX12_move 75 = .ok (.iload 5, 2) := dk_21 (by decide +kernel)
theorem dX12_move_77 : decode cX12_move 77 = .ok (.iload_n 1, 1) := dk_27 (by decide +kernel)
theorem dX12_move_78 : decode cX12_move 78 = .ok (.if_icmp .eq 7, 3) := dk_159 (by decide +kernel)
theorem dX12_move_81 : decode cX12_move 81 = .ok (.iconst 1, 1) := dk_4 (by decide +kernel)
theorem dX12_move_82 : decode cX12_move 82 = .ok (.goto 4, 3) := dk_167 (by decide +kernel)
theorem dX12_move_85 : decode cX12_move 85 = .ok (.iconst 0, 1) := dk_3 (by decide +kernel)
theorem dX12_move_86 : decode cX12_move 86 = .ok (.istore 4, 2) := dk_54 (by decide +kernel)
theorem dX12_move_88 : decode cX12_move 88 = .ok (.iload 6, 2) := dk_21 (by decide +kernel)
theorem dX12_move_90 : decode cX12_move 90 = .ok (.istore_n 3, 1) := dk_62 (by decide +kernel)
theorem dX12_move_91 : decode cX12_move 91 = .ok (.goto (-86), 3) := dk_167 (by decide +kernel)
theorem dX12_move_94 : decode cX12_move 94 = .ok (.return_, 1) := dk_177 (by decide +kernel)
def wsRX12_move : List Cond := .code yX12_move cX12_move 8 none :: ([.fieldLink RX12 287 "OptimaWorksModel" "came" "[I", .fieldLink RX12 284 "OptimaWorksModel" "taker" "[I"] ++ wsX120)
theorem iwsRX12_move_in12 : ∀ w ∈ wsX120, w ∈ wsRX12_move := fun _ h => List.mem_cons_of_mem _ (List.mem_append_right _ h)
theorem gdwsRX12_move : wsRX12_move.all goodWord = true := gdC rfl (gdA (by decide +kernel : ([.fieldLink RX12 287 "OptimaWorksModel" "came" "[I", .fieldLink RX12 284 "OptimaWorksModel" "taker" "[I"] : List Cond).all goodWord = true) gdwsX120)
theorem hm_r_X12_move_0 : (.fieldLink RX12 284 "OptimaWorksModel" "taker" "[I" : Cond) ∈ wsRX12_move := by decide +kernel
set_option maxHeartbeats 4000000 in
set_option maxRecDepth 100000 in
/-- move(holder, free) -/
theorem r_X12_move (l : Launch) (dC : Nat → ClassId) (dI : Nat → Nat → Nat) (a : Nat → Nat) (k : Nat → ClassId) (h0 : Nat) (vi : Nat → Int32) (vj : Nat → Int64) (vF : Nat → Nat → Int32) (vG : Nat → Nat → Int64) (iN : Nat) (vN : Nat) (qN : Nat) (hiN : iN < 10) (hvN : vN < 16) (hqN : qN < 17) (hcm0 : vF 88 vN = vF 89 qN) (htk : vF 87 vN = -1) (hT : TkB (vF 87) iN) (hC : Chn (vF 87) (vF 88) (vF 89) iN qN) (hlk : ∀ q, q ≤ qN → ∃ h, h < 10 ∧ vF 89 q = nI h) (sz : Nat) : Met l yX12_move wsRX12_move ({ frames := 0, cells := 0, slots := 0, locals := 0 }) (va_Pc [.ref h0, .int (nI iN), .int (nI vN)] (fun U => U.heap.size = sz ∧ va_P (dC, dI) vwCl (WR a k h0 vi vj vF vG) U.heap ∧ va_K (dC, dI) vwCl (tX12 k) U ∧ va_D (fun _ => True) (WR a k h0 vi vj vF vG))) (va_Qv (fun (u : Nat → Int32) => (TkB u (iN + 1))) (fun (u : Nat → Int32) t => va_P (dC, dI) vwCl (WR a k h0 vi vj (fT vF 87 u) vG) t.heap ∧ va_D (va_A (WR a k h0 vi vj vF vG) sz) (WR a k h0 vi vj (fT vF 87 u) vG)) (va_A (WR a k h0 vi vj vF vG) sz)) 0 0 (va_A (WR a k h0 vi vj vF vG) sz) := by
  refine Met.ofW (cc := cX12_move) (maxL := 8) (ret := none) (by decide) rfl ?_
  intro p e s m args below meth c s₁ B hml hv
  obtain ⟨rfl, hsz, hP, hK, hD0⟩ := hv
  have hx := B.exec
  have hb := B.bytes
  have hr := B.returns
  have hts := atoms_spec (ws := wsRX12_move) B.pre
  have hown : s.vm.findClass RX12 = some m.cls := findClass_of_methodNamed B.named
  have hlocks := B.notSynchronized
  subst hsz
  have hD := hD0.self (sz := s.heap.size)
  generalize hAe : va_A (WR a k h0 vi vj vF vG) s.heap.size = A at hD ⊢
  have hA : ∀ q : Nat, s.heap.size ≤ q → A q := fun q h => by rw [← hAe]; exact Or.inr h
  have hS : va_S A s.heap s.heap [] := va_S.rf
  have hl := lv_entry ([.ref h0, .int (nI iN), .int (nI vN)]) (n := 8) (Nat.le_of_ble_eq_true rfl)
  rw [lg_entry_eq]
  generalize (lg_sl ([.ref h0, .int (nI iN), .int (nI vN)]) ++ List.replicate (8 - (lg_sl ([.ref h0, .int (nI iN), .int (nI vN)])).length) Slot.unset).toArray = ls at hl ⊢
  have hl : lv_has ls 8 [(0, .ref h0), (1, .int (nI iN)), (2, .int (nI vN))] := hl
  refine lv_iload_n hx hb dX12_move_0 rfl (lv_at hl 2 rfl) ?_
  refine lv_istore_n hx hb dX12_move_1 rfl hl (by decide) rfl (fun ls (hl : lv_has ls _ ([(3, .int (nI vN)), (0, .ref h0), (1, .int (nI iN)), (2, .int (nI vN))])) => ?_)
  refine lv_iconst (v := 1) hx hb dX12_move_2 (by decide) ?_
  refine lv_istore hx hb dX12_move_3 hl (by decide) rfl (fun ls (hl : lv_has ls _ ([(4, .int 1), (3, .int (nI vN)), (0, .ref h0), (1, .int (nI iN)), (2, .int (nI vN))])) => ?_)
  have e9 : fT vF 87 (vF 87) = vF := by funext q9; by_cases h9_87 : q9 = 87; (subst h9_87; exact (fT_eq _ _ _).trans (Eq.trans (by first | with_reducible rfl | with_reducible assumption | (symm; with_reducible assumption) | rfl | assumption | (symm; assumption) | (subst_vars; rfl)) (Eq.refl _).symm)); exact (fT_ne _ _ h9_87).trans (Eq.refl _).symm
  have hP := wr_PF e9 hP
  have hD := wr_DF e9 hD
  clear e9
  have hl : lv_has _ _ ([(0, .ref h0), (1, .int (nI iN)), (3, .int (nI vN)), (4, .int 1)]) := lv_sub hl [2, 3, 1, 0] rfl
  refine (fun (loop : ∀ (n9 : Nat) (mo : Int32) (vq : Int32) (tk : Nat → Int32) (H : Heap) (locs : List Loc) (ls : Array Slot),  ((mo = 1 ∧ ∃ v q, vq = nI v ∧ v < 16 ∧ vF 88 v = vF 89 q ∧ q ≤ qN ∧ tk v = -1 ∧ TkB tk iN ∧ Chn tk (vF 88) (vF 89) iN q ∧ q + 1 < n9) ∨ (mo = 0 ∧ 0 < n9 ∧ TkB tk (iN + 1))) → va_P (dC, dI) vwCl (WR a k h0 vi vj (fT vF 87 tk) vG) H → va_D A (WR a k h0 vi vj (fT vF 87 tk) vG) → va_S A s.heap H locs → lv_has ls 8 [(0, .ref h0), (1, .int (nI iN)), (3, .int vq), (4, .int mo)] → W p l e _ s m _ below meth c H locs 0 0 _ (F0 m 5 ls [])) => loop (qN + 2) 1 (nI vN) (vF 87) _ _ _  (Or.inl ⟨rfl, vN, qN, rfl, hvN, hcm0, Nat.le_refl _, htk, hT, hC, by omega⟩) hP hD hS hl) ?_
  intro n9
  induction n9 with
  | zero => intro mo vq tk H locs ls  hf9; exact False.elim (by omega)
  | succ n9 ih5 =>
    intro mo vq tk H locs ls  hf5 hP hD hS hl
    refine lv_iload hx hb dX12_move_5 (lv_at hl 3 rfl) ?_
    refine lv_if_eq (tgt := 94) hx hb dX12_move_7 (by decide) (fun c_7 => ?_) (fun c_7 => ?_)
    · have t_7 : (mo).toInt = 0 := toI_eq c_7 rfl (by decide)
      refine W.widen (k := 0) (n := 0) (by decide +kernel) (by decide +kernel) ?_
      exact W.vret hx hb hr (fun t9_ ht hW => ⟨⟨tk, rfl, by (try dsimp only); exact (hf5.resolve_left (fun h => by rw [h.1] at c_7; exact absurd c_7 (by decide))).2.2, by rw [ht]; exact hP, hD⟩, hS.F ht⟩) hS.2.2 dX12_move_94
    · have t_7 : ¬ (mo).toInt = 0 := toI_neq c_7 rfl (by decide)
      obtain ⟨v5, q5, ev5, hv5, hcm, hq17, htk0, hTk, hCh, hqn⟩ := (hf5.resolve_right (fun h => c_7 h.1)).2
      subst ev5
      refine lv_aload_n hx hb dX12_move_10 rfl (lv_at hl 0 rfl) ?_
      refine va_get (D := (dC, dI)) (ci := 12) (v := .ref (a 88)) (C := RX12) (T := TX12) (N := 163) (fs := fM (vS a vi vj)) hx hb hts iwsRX12_move_in12 hown hK hP 0 rfl rfl 141 (by decide) (hts (.fieldLink RX12 287 "OptimaWorksModel" "came" "[I") (by decide +kernel)) (fun _ h9 => h9) rfl dX12_move_11 ?_
      refine lv_iload_n hx hb dX12_move_14 rfl (lv_at hl 2 rfl) ?_
      refine va_iald (cA := k 88) (n := 16) (f := (vF 88)) hx hb hK hP 89 88 (WR_get 88 (by decide)) (TR_get 88 (by decide)) (vp_in_nI (show v5 < 16 by omega) (by omega)) dX12_move_15 ?_
      refine lv_topi (fun y1 hy1 => ?_)
      obtain rfl : ((vF 88) v5) = y1 := (hy1.trans (by rw [nI_clamp (by omega)])).symm
      refine lv_istore hx hb dX12_move_16 hl (by decide) rfl (fun ls (hl : lv_has ls _ ([(5, .int ((vF 88) v5)), (0, .ref h0), (1, .int (nI iN)), (3, .int (nI v5)), (4, .int mo)])) => ?_)
      refine lv_iconst (v := (-1)) hx hb dX12_move_18 (by decide) ?_
      refine lv_istore hx hb dX12_move_19 hl (by decide) rfl (fun ls (hl : lv_has ls _ ([(6, .int (-1)), (5, .int ((vF 88) v5)), (0, .ref h0), (1, .int (nI iN)), (3, .int (nI v5)), (4, .int mo)])) => ?_)
      refine lv_iconst (v := 0) hx hb dX12_move_21 (by decide) ?_
      refine lv_istore hx hb dX12_move_22 hl (by decide) rfl (fun ls (hl : lv_has ls _ ([(7, .int 0), (6, .int (-1)), (5, .int ((vF 88) v5)), (0, .ref h0), (1, .int (nI iN)), (3, .int (nI v5)), (4, .int mo)])) => ?_)
      have hl : lv_has _ _ ([(0, .ref h0), (1, .int (nI iN)), (3, .int (nI v5)), (5, .int ((vF 88) v5)), (6, .int (-1)), (7, .int (nI 0))]) := lv_sub hl [3, 4, 5, 2, 1, 0] rfl
      refine (fun (loop : ∀ (n9 : Nat) (w5 : Nat) (hd : Int32) (H : Heap) (locs : List Loc) (ls : Array Slot), (w5 ≤ 16) → ((hd = -1 ∧ ∀ x, x < w5 → tk x ≠ vF 88 v5) ∨ (∃ x, hd = nI x ∧ x < w5 ∧ tk x = vF 88 v5)) →  (16 < w5 + n9) → va_P (dC, dI) vwCl (WR a k h0 vi vj (fT vF 87 tk) vG) H → va_D A (WR a k h0 vi vj (fT vF 87 tk) vG) → va_S A s.heap H locs → lv_has ls 8 [(0, .ref h0), (1, .int (nI iN)), (3, .int (nI v5)), (5, .int ((vF 88) v5)), (6, .int hd), (7, .int (nI w5))] → W p l e _ s m _ below meth c H locs 0 0 _ (F0 m 24 ls [])) => loop (17) 0 (-1) _ _ _ (by omega) (Or.inl ⟨rfl, fun x hx9 => absurd hx9 (by omega)⟩) (by omega) hP hD hS hl) ?_
      intro n9
      induction n9 with
      | zero => intro w5 hd H locs ls hw5 hhd hf9; exact False.elim (by omega)
      | succ n9 ih24_1 =>
        intro w5 hd H locs ls hw5 hhd hf24_1 hP hD hS hl
        refine lv_iload hx hb dX12_move_24 (lv_at hl 5 rfl) ?_
        refine lv_bipush (v := 16) hx hb dX12_move_26 (by decide) ?_
        refine lv_icmp_ge (tgt := 53) hx hb dX12_move_28 (by decide) (fun c_28 => ?_) (fun c_28 => ?_)
        · have t_28 : ((w5 : Nat) : Int) ≥ 16 := toI_ge c_28 (nI_toInt (by omega)) (by decide)
          have ew5 : w5 = 16 := by omega
          refine lv_aload_n hx hb dX12_move_53 rfl (lv_at hl 0 rfl) ?_
          refine va_get (D := (dC, dI)) (ci := 12) (v := .ref (a 87)) (C := RX12) (T := TX12) (N := 163) (fs := fM (vS a vi vj)) hx hb hts iwsRX12_move_in12 hown hK hP 0 rfl rfl 140 (by decide) (hts _ hm_r_X12_move_0) (fun _ h9 => h9) rfl dX12_move_54 ?_
          refine lv_iload_n hx hb dX12_move_57 rfl (lv_at hl 2 rfl) ?_
          refine lv_iload hx hb dX12_move_58 (lv_at hl 3 rfl) ?_
          refine va_iast (cA := k 87) (n := 16) (f := tk) hx hb hK hP hD hS 88 87 (WR_get 87 (by decide)) (TR_get 87 (by decide)) (vp_in_nI (show v5 < 16 by omega) (by omega)) dX12_move_60 (fun H locs hP hD hS => ?_)
          have e9 : fT vF 87 (upd tk ((nI v5)).toNatClampNeg ((vF 88) v5)) = fT (fT vF 87 tk) 87 (upd tk ((nI v5)).toNatClampNeg ((vF 88) v5)) := (fT_sm _ _ _ _).symm
          have hP := wr_PF e9 (fz_w (WR_F 87 (by decide) _ rfl) hP)
          have hD := wr_DF e9 (fz_wD (WR_F 87 (by decide) _ rfl) hD)
          clear e9
          refine lv_iload hx hb dX12_move_61 (lv_at hl 4 rfl) ?_
          refine lv_iconst (v := (-1)) hx hb dX12_move_63 (by decide) ?_
          refine lv_icmp_eq (tgt := 75) hx hb dX12_move_64 (by decide) (fun c_64 => ?_) (fun c_64 => ?_)
          · have t_64 : (hd).toInt = -1 := toI_eq c_64 rfl (by decide)
            refine lv_iload hx hb dX12_move_75 (lv_at hl 3 rfl) ?_
            refine lv_iload_n hx hb dX12_move_77 rfl (lv_at hl 1 rfl) ?_
            refine lv_icmp_eq (tgt := 85) hx hb dX12_move_78 (by decide) (fun c_78 => ?_) (fun c_78 => ?_)
            · have t_78 : (((vF 88) v5)).toInt = ((iN : Nat) : Int) := toI_eq c_78 rfl (nI_toInt (by omega))
              refine lv_iconst (v := 0) hx hb dX12_move_85 (by decide) ?_
              refine lv_istore hx hb dX12_move_86 hl (by decide) rfl (fun ls (hl : lv_has ls _ ([(4, .int 0), (0, .ref h0), (1, .int (nI iN)), (3, .int (nI v5)), (5, .int ((vF 88) v5)), (6, .int hd), (7, .int (nI w5))])) => ?_)
              refine lv_iload hx hb dX12_move_88 (lv_at hl 5 rfl) ?_
              refine lv_istore_n hx hb dX12_move_90 rfl hl (by decide) rfl (fun ls (hl : lv_has ls _ ([(3, .int hd), (4, .int 0), (0, .ref h0), (1, .int (nI iN)), (5, .int ((vF 88) v5)), (6, .int hd), (7, .int (nI w5))])) => ?_)
              refine lv_goto (tgt := 5) hx hb dX12_move_91 (by decide) ?_
              have hl : lv_has _ _ ([(0, .ref h0), (1, .int (nI iN)), (3, .int hd), (4, .int 0)]) := lv_sub hl [2, 3, 0, 1] rfl
              exact ih5 0 hd (upd tk ((nI v5)).toNatClampNeg ((vF 88) v5)) _ _ _  (by (have hq0 : q5 = 0 := by rcases Nat.eq_zero_or_pos q5 with h9 | h9; (exact h9); (exfalso; obtain ⟨v1, p1, k1, k2, k3, k4, k6⟩ := hCh.2.2 q5 h9 (Nat.le_refl _); rcases hhd with ⟨h1, h2⟩ | ⟨x, h1, h2, h3⟩; (exact h2 v1 (by omega) (by rw [k3, hcm])); (rw [h1] at c_64; exact nI_nm1 (by omega) c_64))); (have hh0 : vF 88 v5 = nI iN := by rw [hcm, hq0]; exact hCh.1); exact Or.inr ⟨rfl, by omega, hTk.last (by omega) hv5 (by rw [upd_at (by omega), if_pos rfl]; exact hh0) (fun x hx9 => by rw [upd_at (by omega), if_neg hx9])⟩) hP hD hS hl
            · have t_78 : ¬ (((vF 88) v5)).toInt = ((iN : Nat) : Int) := toI_neq c_78 rfl (nI_toInt (by omega))
              refine lv_iconst (v := 1) hx hb dX12_move_81 (by decide) ?_
              refine lv_goto (tgt := 86) hx hb dX12_move_82 (by decide) ?_
              refine lv_istore hx hb dX12_move_86 hl (by decide) rfl (fun ls (hl : lv_has ls _ ([(4, .int 1), (0, .ref h0), (1, .int (nI iN)), (3, .int (nI v5)), (5, .int ((vF 88) v5)), (6, .int hd), (7, .int (nI w5))])) => ?_)
              refine lv_iload hx hb dX12_move_88 (lv_at hl 5 rfl) ?_
              refine lv_istore_n hx hb dX12_move_90 rfl hl (by decide) rfl (fun ls (hl : lv_has ls _ ([(3, .int hd), (4, .int 1), (0, .ref h0), (1, .int (nI iN)), (5, .int ((vF 88) v5)), (6, .int hd), (7, .int (nI w5))])) => ?_)
              refine lv_goto (tgt := 5) hx hb dX12_move_91 (by decide) ?_
              have hl : lv_has _ _ ([(0, .ref h0), (1, .int (nI iN)), (3, .int hd), (4, .int 1)]) := lv_sub hl [2, 3, 0, 1] rfl
              exact ih5 1 hd (upd tk ((nI v5)).toNatClampNeg ((vF 88) v5)) _ _ _  (by (have hq0 : q5 = 0 := by rcases Nat.eq_zero_or_pos q5 with h9 | h9; (exact h9); (exfalso; obtain ⟨v1, p1, k1, k2, k3, k4, k6⟩ := hCh.2.2 q5 h9 (Nat.le_refl _); rcases hhd with ⟨h1, h2⟩ | ⟨x, h1, h2, h3⟩; (exact h2 v1 (by omega) (by rw [k3, hcm])); (rw [h1] at c_64; exact nI_nm1 (by omega) c_64))); (have hh0 : vF 88 v5 = nI iN := by rw [hcm, hq0]; exact hCh.1); exact absurd hh0 c_78) hP hD hS hl
          · have t_64 : ¬ (hd).toInt = -1 := toI_neq c_64 rfl (by decide)
            have hdx : ∃ x, hd = nI x ∧ x < 16 := by rcases hhd with h9 | ⟨x, h1, h2, h3⟩; (exact absurd h9.1 c_64); (exact ⟨x, h1, by omega⟩)
            have hdr : 0 ≤ (hd).toInt ∧ (hd).toInt < 16 := by obtain ⟨x, h1, h2⟩ := hdx; rw [h1, nI_toInt (by omega)]; omega
            refine lv_aload_n hx hb dX12_move_67 rfl (lv_at hl 0 rfl) ?_
            refine va_get (D := (dC, dI)) (ci := 12) (v := .ref (a 87)) (C := RX12) (T := TX12) (N := 163) (fs := fM (vS a vi vj)) hx hb hts iwsRX12_move_in12 hown hK hP 0 rfl rfl 140 (by decide) (hts _ hm_r_X12_move_0) (fun _ h9 => h9) rfl dX12_move_68 ?_
            refine lv_iload hx hb dX12_move_71 (lv_at hl 4 rfl) ?_
            refine lv_iconst (v := (-1)) hx hb dX12_move_73 (by decide) ?_
            refine va_iast (cA := k 87) (n := 16) (f := (upd tk ((nI v5)).toNatClampNeg ((vF 88) v5))) hx hb hK hP hD hS 88 87 (WR_get 87 (by decide)) (TR_get 87 (by decide)) (vp_in_iff.mpr (by omega)) dX12_move_74 (fun H locs hP hD hS => ?_)
            have e9 : fT vF 87 (upd (upd tk ((nI v5)).toNatClampNeg ((vF 88) v5)) (hd).toNatClampNeg (-1)) = fT (fT vF 87 (upd tk ((nI v5)).toNatClampNeg ((vF 88) v5))) 87 (upd (upd tk ((nI v5)).toNatClampNeg ((vF 88) v5)) (hd).toNatClampNeg (-1)) := (fT_sm _ _ _ _).symm
            have hP := wr_PF e9 (fz_w (WR_F 87 (by decide) _ rfl) hP)
            have hD := wr_DF e9 (fz_wD (WR_F 87 (by decide) _ rfl) hD)
            clear e9
            refine lv_iload hx hb dX12_move_75 (lv_at hl 3 rfl) ?_
            refine lv_iload_n hx hb dX12_move_77 rfl (lv_at hl 1 rfl) ?_
            refine lv_icmp_eq (tgt := 85) hx hb dX12_move_78 (by decide) (fun c_78 => ?_) (fun c_78 => ?_)
            · have t_78 : (((vF 88) v5)).toInt = ((iN : Nat) : Int) := toI_eq c_78 rfl (nI_toInt (by omega))
              refine lv_iconst (v := 0) hx hb dX12_move_85 (by decide) ?_
              refine lv_istore hx hb dX12_move_86 hl (by decide) rfl (fun ls (hl : lv_has ls _ ([(4, .int 0), (0, .ref h0), (1, .int (nI iN)), (3, .int (nI v5)), (5, .int ((vF 88) v5)), (6, .int hd), (7, .int (nI w5))])) => ?_)
              refine lv_iload hx hb dX12_move_88 (lv_at hl 5 rfl) ?_
              refine lv_istore_n hx hb dX12_move_90 rfl hl (by decide) rfl (fun ls (hl : lv_has ls _ ([(3, .int hd), (4, .int 0), (0, .ref h0), (1, .int (nI iN)), (5, .int ((vF 88) v5)), (6, .int hd), (7, .int (nI w5))])) => ?_)
              refine lv_goto (tgt := 5) hx hb dX12_move_91 (by decide) ?_
              have hl : lv_has _ _ ([(0, .ref h0), (1, .int (nI iN)), (3, .int hd), (4, .int 0)]) := lv_sub hl [2, 3, 0, 1] rfl
              exact ih5 0 hd (upd (upd tk ((nI v5)).toNatClampNeg ((vF 88) v5)) (hd).toNatClampNeg (-1)) _ _ _  (by (obtain ⟨x5, ex5, hx5, hx6⟩ := hhd.resolve_left (fun h => c_64 h.1)); (have hx1 : tk x5 ≠ -1 := by rw [hx6, hcm]; (obtain ⟨h9, e9⟩ : ∃ h9, h9 < 10 ∧ vF 89 q5 = nI h9 := hlk q5 (by omega)); rw [e9.2]; exact nI_nm1 (by omega)); (have hqp : 0 < q5 := by rcases Nat.eq_zero_or_pos q5 with h9 | h9; (exfalso; rw [hcm, h9, hCh.1] at hx6; exact hTk.fresh (by omega) (show x5 < 16 by omega) hx6); (exact h9)); exfalso; rw [c_78] at hx6; exact hTk.fresh (by omega) (show x5 < 16 by omega) hx6) hP hD hS hl
            · have t_78 : ¬ (((vF 88) v5)).toInt = ((iN : Nat) : Int) := toI_neq c_78 rfl (nI_toInt (by omega))
              refine lv_iconst (v := 1) hx hb dX12_move_81 (by decide) ?_
              refine lv_goto (tgt := 86) hx hb dX12_move_82 (by decide) ?_
              refine lv_istore hx hb dX12_move_86 hl (by decide) rfl (fun ls (hl : lv_has ls _ ([(4, .int 1), (0, .ref h0), (1, .int (nI iN)), (3, .int (nI v5)), (5, .int ((vF 88) v5)), (6, .int hd), (7, .int (nI w5))])) => ?_)
              refine lv_iload hx hb dX12_move_88 (lv_at hl 5 rfl) ?_
              refine lv_istore_n hx hb dX12_move_90 rfl hl (by decide) rfl (fun ls (hl : lv_has ls _ ([(3, .int hd), (4, .int 1), (0, .ref h0), (1, .int (nI iN)), (5, .int ((vF 88) v5)), (6, .int hd), (7, .int (nI w5))])) => ?_)
              refine lv_goto (tgt := 5) hx hb dX12_move_91 (by decide) ?_
              have hl : lv_has _ _ ([(0, .ref h0), (1, .int (nI iN)), (3, .int hd), (4, .int 1)]) := lv_sub hl [2, 3, 0, 1] rfl
              exact ih5 1 hd (upd (upd tk ((nI v5)).toNatClampNeg ((vF 88) v5)) (hd).toNatClampNeg (-1)) _ _ _  (by (obtain ⟨x5, ex5, hx5, hx6⟩ := hhd.resolve_left (fun h => c_64 h.1)); (have hx1 : tk x5 ≠ -1 := by rw [hx6, hcm]; (obtain ⟨h9, e9⟩ : ∃ h9, h9 < 10 ∧ vF 89 q5 = nI h9 := hlk q5 (by omega)); rw [e9.2]; exact nI_nm1 (by omega)); (have hqp : 0 < q5 := by rcases Nat.eq_zero_or_pos q5 with h9 | h9; (exfalso; rw [hcm, h9, hCh.1] at hx6; exact hTk.fresh (by omega) (show x5 < 16 by omega) hx6); (exact h9)); (subst ex5); (obtain ⟨hT2, q6, hq6, hcq, hC2⟩ := hCh.step (tk2 := upd (upd tk (nI v5).toNatClampNeg (vF 88 v5)) (nI x5).toNatClampNeg (-1)) (w := x5) hTk hv5 (by omega) htk0 hqp (by rw [hx6, hcm]) hx1 (by rw [upd_at (by omega), if_neg (fun e9 => hx1 (by rw [← e9]; exact htk0)), upd_at (by omega), if_pos rfl, hcm]) (by rw [upd_at (by omega), if_pos rfl]) (fun x h1 h2 => by rw [upd_at (by omega), if_neg h2, upd_at (by omega), if_neg h1])); exact Or.inl ⟨rfl, x5, q6, rfl, by omega, hcq, by omega, by rw [upd_at (by omega), if_pos rfl], hT2, hC2, by omega⟩) hP hD hS hl
        · have t_28 : ¬ ((w5 : Nat) : Int) ≥ 16 := toI_nge c_28 (nI_toInt (by omega)) (by decide)
          refine lv_aload_n hx hb dX12_move_31 rfl (lv_at hl 0 rfl) ?_
          refine va_get (D := (dC, dI)) (ci := 12) (v := .ref (a 87)) (C := RX12) (T := TX12) (N := 163) (fs := fM (vS a vi vj)) hx hb hts iwsRX12_move_in12 hown hK hP 0 rfl rfl 140 (by decide) (hts _ hm_r_X12_move_0) (fun _ h9 => h9) rfl dX12_move_32 ?_
          refine lv_iload hx hb dX12_move_35 (lv_at hl 5 rfl) ?_
          refine va_iald (cA := k 87) (n := 16) (f := tk) hx hb hK hP 88 87 (WR_get 87 (by decide)) (TR_get 87 (by decide)) (vp_in_nI (show w5 < 16 by omega) (by omega)) dX12_move_37 ?_
          refine lv_topi (fun y2 hy2 => ?_)
          obtain rfl : (tk w5) = y2 := (hy2.trans (by rw [nI_clamp (by omega)])).symm
          refine lv_iload hx hb dX12_move_38 (lv_at hl 3 rfl) ?_
          refine lv_icmp_ne (tgt := 47) hx hb dX12_move_40 (by decide) (fun c_40 => ?_) (fun c_40 => ?_)
          · have t_40 : ((tk w5)).toInt ≠ (((vF 88) v5)).toInt := toI_ne c_40 rfl rfl
            refine lv_iinc (v := (nI (w5 + 1))) hx hb dX12_move_47 hl (k := 5) rfl (nI_add w5 1) (by decide) rfl (fun ls (hl : lv_has ls _ ([(7, .int (nI (w5 + 1))), (0, .ref h0), (1, .int (nI iN)), (3, .int (nI v5)), (5, .int ((vF 88) v5)), (6, .int hd)])) => ?_)
            refine lv_goto (tgt := 24) hx hb dX12_move_50 (by decide) ?_
            have hl : lv_has _ _ ([(0, .ref h0), (1, .int (nI iN)), (3, .int (nI v5)), (5, .int ((vF 88) v5)), (6, .int hd), (7, .int (nI (w5 + 1)))]) := lv_sub hl [1, 2, 3, 4, 5, 0] rfl
            exact ih24_1 (w5 + 1) hd _ _ _ (by omega) (by rcases hhd with ⟨h1, h2⟩ | ⟨x, h1, h2, h3⟩; (exact Or.inl ⟨h1, fun x hx9 => by by_cases e9 : x = w5; (rw [e9]; exact c_40); (exact h2 x (by omega))⟩); (exact Or.inr ⟨x, h1, by omega, h3⟩)) (by omega) hP hD hS hl
          · have t_40 : ((tk w5)).toInt = (((vF 88) v5)).toInt := toI_nne c_40 rfl rfl
            refine lv_iload hx hb dX12_move_43 (lv_at hl 5 rfl) ?_
            refine lv_istore hx hb dX12_move_45 hl (by decide) rfl (fun ls (hl : lv_has ls _ ([(6, .int (nI w5)), (0, .ref h0), (1, .int (nI iN)), (3, .int (nI v5)), (5, .int ((vF 88) v5)), (7, .int (nI w5))])) => ?_)
            refine lv_iinc (v := (nI (w5 + 1))) hx hb dX12_move_47 hl (k := 5) rfl (nI_add w5 1) (by decide) rfl (fun ls (hl : lv_has ls _ ([(7, .int (nI (w5 + 1))), (6, .int (nI w5)), (0, .ref h0), (1, .int (nI iN)), (3, .int (nI v5)), (5, .int ((vF 88) v5))])) => ?_)
            refine lv_goto (tgt := 24) hx hb dX12_move_50 (by decide) ?_
            have hl : lv_has _ _ ([(0, .ref h0), (1, .int (nI iN)), (3, .int (nI v5)), (5, .int ((vF 88) v5)), (6, .int (nI w5)), (7, .int (nI (w5 + 1)))]) := lv_sub hl [2, 3, 4, 5, 1, 0] rfl
            exact ih24_1 (w5 + 1) (nI w5) _ _ _ (by omega) (Or.inr ⟨w5, rfl, by omega, c_40⟩) (by omega) hP hD hS hl
theorem dX12_finds_0 : decode cX12_finds 0 = .ok (.iconst 0, 1) := dk_3 (by decide +kernel)
theorem dX12_finds_1 : decode cX12_finds 1 = .ok (.istore_n 2, 1) := dk_61 (by decide +kernel)
theorem dX12_finds_2 : decode cX12_finds 2 = .ok (.iload_n 2, 1) := dk_28 (by decide +kernel)
theorem dX12_finds_3 : decode cX12_finds 3 = .ok (.bipush 16, 2) := dk_16 (by decide +kernel)
theorem dX12_finds_5 : decode cX12_finds 5 = .ok (.if_icmp .ge 16, 3) := dk_162 (by decide +kernel)
theorem dX12_finds_8 : decode cX12_finds 8 = .ok (.aload_n 0, 1) := dk_42 (by decide +kernel)
theorem dX12_finds_9 : decode cX12_finds 9 = .ok (.getfield 287, 3) := dk_180 (by decide +kernel)
theorem dX12_finds_12 : decode cX12_finds 12 = .ok (.iload_n 2, 1) := dk_28 (by decide +kernel)
theorem dX12_finds_13 : decode cX12_finds 13 = .ok (.iconst (-1), 1) := dk_2 (by decide +kernel)
theorem dX12_finds_14 : decode cX12_finds 14 = .ok (.iastore, 1) := dk_79 (by decide +kernel)
theorem dX12_finds_15 : decode cX12_finds 15 = .ok (.iinc 2 1, 3) := dk_132 (by decide +kernel)
theorem dX12_finds_18 : decode cX12_finds 18 = .ok (.goto (-16), 3) := dk_167 (by decide +kernel)
theorem dX12_finds_21 : decode cX12_finds 21 = .ok (.iconst 1, 1) := dk_4 (by decide +kernel)
theorem dX12_finds_22 : decode cX12_finds 22 = .ok (.istore_n 2, 1) := dk_61 (by decide +kernel)
theorem dX12_finds_23 : decode cX12_finds 23 = .ok (.aload_n 0, 1) := dk_42 (by decide +kernel)
theorem dX12_finds_24 : decode cX12_finds 24 = .ok (.getfield 290, 3) := dk_180 (by decide +kernel)
theorem dX12_finds_27 : decode cX12_finds 27 = .ok (.iconst 0, 1) := dk_3 (by decide +kernel)
theorem dX12_finds_28 : decode cX12_finds 28 = .ok (.iload_n 1, 1) := dk_27 (by decide +kernel)
theorem dX12_finds_29 : decode cX12_finds 29 = .ok (.iastore, 1) := dk_79 (by decide +kernel)
theorem dX12_finds_30 : decode cX12_finds 30 = .ok (.iconst 0, 1) := dk_3 (by decide +kernel)
theorem dX12_finds_31 : decode cX12_finds 31 = .ok (.istore_n 3, 1) := dk_62 (by decide +kernel)
theorem dX12_finds_32 : decode cX12_finds 32 = .ok (.iload_n 3, 1) := dk_29 (by decide +kernel)
theorem dX12_finds_33 : decode cX12_finds 33 = .ok (.iload_n 2, 1) := dk_28 (by decide +kernel)
theorem dX12_finds_34 : decode cX12_finds 34 = .ok (.if_icmp .ge 110, 3) := dk_162 (by decide +kernel)
theorem dX12_finds_37 : decode cX12_finds 37 = .ok (.iconst 0, 1) := dk_3 (by decide +kernel)
theorem dX12_finds_38 : decode cX12_finds 38 = .ok (.istore 4, 2) := dk_54 (by decide +kernel)
theorem dX12_finds_40 : decode cX12_finds 40 = .ok (.iload 4, 2) := dk_21 (by decide +kernel)
theorem dX12_finds_42 : decode cX12_finds 42 = .ok (.bipush 16, 2) := dk_16 (by decide +kernel)
theorem dX12_finds_44 : decode cX12_finds 44 = .ok (.if_icmp .ge 94, 3) := dk_162 (by decide +kernel)
theorem dX12_finds_47 : decode cX12_finds 47 = .ok (.aload_n 0, 1) := dk_42 (by decide +kernel)
theorem dX12_finds_48 : decode cX12_finds 48 = .ok (.getfield 281, 3) := dk_180 (by decide +kernel)
theorem dX12_finds_51 : decode cX12_finds 51 = .ok (.aload_n 0, 1) := dk_42 (by decide +kernel)
theorem dX12_finds_52 : decode cX12_finds 52 = .ok (.getfield 290, 3) := dk_180 (by decide +kernel)
theorem dX12_finds_55 : decode cX12_finds 55 = .ok (.iload_n 3, 1) := dk_29 (by decide +kernel)
theorem dX12_finds_56 : decode cX12_finds 56 = .ok (.iaload, 1) := dk_46 (by decide +kernel)
theorem dX12_finds_57 : decode cX12_finds 57 = .ok (.iaload, 1) := dk_46 (by decide +kernel)
theorem dX12_finds_58 : decode cX12_finds 58 = .ok (.iload 4, 2) := dk_21 (by decide +kernel)
theorem dX12_finds_60 : decode cX12_finds 60 = .ok (.ishr, 1) := dk_122 (by decide +kernel)
theorem dX12_finds_61 : decode cX12_finds 61 = .ok (.iconst 1, 1) := dk_4 (by decide +kernel)
theorem dX12_finds_62 : decode cX12_finds 62 = .ok (.iand, 1) := dk_126 (by decide +kernel)
theorem dX12_finds_63 : decode cX12_finds 63 = .ok (.ifCond .eq 69, 3) := dk_153 (by decide +kernel)
theorem dX12_finds_66 : decode cX12_finds 66 = .ok (.aload_n 0, 1) := dk_42 (by decide +kernel)
theorem dX12_finds_67 : decode cX12_finds 67 = .ok (.getfield 287, 3) := dk_180 (by decide +kernel)
theorem dX12_finds_70 : decode cX12_finds 70 = .ok (.iload 4, 2) := dk_21 (by decide +kernel)
theorem dX12_finds_72 : decode cX12_finds 72 = .ok (.iaload, 1) := dk_46 (by decide +kernel)
theorem dX12_finds_73 : decode cX12_finds 73 = .ok (.iconst (-1), 1) := dk_2 (by decide +kernel)
theorem dX12_finds_74 : decode cX12_finds 74 = .ok (.if_icmp .eq 6, 3) := dk_159 (by decide +kernel)
theorem dX12_finds_77 : decode cX12_finds 77 = .ok (.goto 55, 3) := dk_167 (by decide +kernel)
theorem dX12_finds_80 : decode cX12_finds 80 = .ok (.aload_n 0, 1) := dk_42 (by decide +kernel)
theorem dX12_finds_81 : decode cX12_finds 81 = .ok (.getfield 287, 3) := dk_180 (by decide +kernel)
theorem dX12_finds_84 : decode cX12_finds 84 = .ok (.iload 4, 2) := dk_21 (by decide +kernel)
theorem dX12_finds_86 : decode cX12_finds 86 = .ok (.aload_n 0, 1) := dk_42 (by decide +kernel)
theorem dX12_finds_87 : decode cX12_finds 87 = .ok (.getfield 290, 3) := dk_180 (by decide +kernel)
theorem dX12_finds_90 : decode cX12_finds 90 = .ok (.iload_n 3, 1) := dk_29 (by decide +kernel)
theorem dX12_finds_91 : decode cX12_finds 91 = .ok (.iaload, 1) := dk_46 (by decide +kernel)
theorem dX12_finds_92 : decode cX12_finds 92 = .ok (.iastore, 1) := dk_79 (by decide +kernel)
theorem dX12_finds_93 : decode cX12_finds 93 = .ok (.aload_n 0, 1) := dk_42 (by decide +kernel)
theorem dX12_finds_94 : decode cX12_finds 94 = .ok (.getfield 284, 3) := dk_180 (by decide +kernel)
theorem dX12_finds_97 : decode cX12_finds 97 = .ok (.iload 4, 2) := dk_21 (by decide +kernel)
theorem dX12_finds_99 : decode cX12_finds 99 = .ok (.iaload, 1) := dk_46 (by decide +kernel)
theorem dX12_finds_100 : decode cX12_finds 100 = .ok (.iconst (-1), 1) := dk_2 (by decide +kernel)
theorem dX12_finds_101 : decode cX12_finds 101 = .ok (.if_icmp .eq 22, 3) := dk_159 (by decide +kernel)
theorem dX12_finds_104 : decode cX12_finds 104 = .ok (.aload_n 0, 1) := dk_42 (by decide +kernel)
theorem dX12_finds_105 : decode cX12_finds 105 = .ok (.getfield 290, 3) := dk_180 (by decide +kernel)
theorem dX12_finds_108 : decode cX12_finds 108 = .ok (.iload_n 2, 1) := dk_28 (by decide +kernel)
theorem dX12_finds_109 : decode cX12_finds 109 = .ok (.aload_n 0, 1) := dk_42 (by decide +kernel)
theorem dX12_finds_110 : decode cX12_finds 110 = .ok (.getfield 284, 3) := dk_180 (by decide +kernel)
theorem dX12_finds_113 : decode cX12_finds 113 = .ok (.iload 4, 2) := dk_21 (by decide +kernel)
theorem dX12_finds_115 : decode cX12_finds 115 = .ok (.iaload, 1) := dk_46 (by decide +kernel)
theorem dX12_finds_116 : decode cX12_finds 116 = .ok (.iastore, 1) := dk_79 (by decide +kernel)
theorem dX12_finds_117 : decode cX12_finds 117 = .ok (.iinc 2 1, 3) := dk_132 (by decide +kernel)
theorem dX12_finds_120 : decode cX12_finds 120 = .ok (.goto 12, 3) := dk_167 (by decide +kernel)
theorem dX12_finds_123 : decode cX12_finds 123 = .ok (.aload_n 0, 1) := dk_42 (by decide +kernel)
theorem dX12_finds_124 : decode cX12_finds 124 = .ok (.iload_n 1, 1) := dk_27 (by decide +kernel)
theorem dX12_finds_125 : decode cX12_finds 125 = .ok (.iload 4, 2) := dk_21 (by decide +kernel)
theorem dX12_finds_127 : decode cX12_finds 127 = .ok (.invokevirtual 1016, 3) := dk_182 (by decide +kernel)
theorem dX12_finds_130 : decode cX12_finds 130 = .ok (.iconst 1, 1) := dk_4 (by decide +kernel)
theorem dX12_finds_131 : decode cX12_finds 131 = .ok (.ireturn, 1) := dk_172 (by decide +kernel)
theorem dX12_finds_132 : decode cX12_finds 132 = .ok (.iinc 4 1, 3) := dk_132 (by decide +kernel)
theorem dX12_finds_135 : decode cX12_finds 135 = .ok (.goto (-95), 3) := dk_167 (by decide +kernel)
theorem dX12_finds_138 : decode cX12_finds 138 = .ok (.iinc 3 1, 3) := dk_132 (by decide +kernel)
theorem dX12_finds_141 : decode cX12_finds 141 = .ok (.goto (-109), 3) := dk_167 (by decide +kernel)
theorem dX12_finds_144 : decode cX12_finds 144 = .ok (.iconst 0, 1) := dk_3 (by decide +kernel)
theorem dX12_finds_145 : decode cX12_finds 145 = .ok (.ireturn, 1) := dk_172 (by decide +kernel)
def wsRX12_finds : List Cond := .code yX12_finds cX12_finds 5 (some .boolean) :: ([.fieldLink RX12 290 "OptimaWorksModel" "looked" "[I", .fieldLink RX12 281 "OptimaWorksModel" "with" "[I", .fieldLink RX12 287 "OptimaWorksModel" "came" "[I", .fieldLink RX12 284 "OptimaWorksModel" "taker" "[I"] ++ wsX120 ++ (wsV RX12 1016 RX12 yX12_move wsRX12_move))
theorem iwsRX12_finds_in12 : ∀ w ∈ wsX120, w ∈ wsRX12_finds := fun _ h => List.mem_cons_of_mem _ (List.mem_append_left _ (List.mem_append_right _ h))
theorem gwsRX12_finds_0 : GoodIn wsRX12_finds (wsV RX12 1016 RX12 yX12_move wsRX12_move) := goodIn_sub (fun _ h => List.mem_cons_of_mem _ (List.mem_append_right _ h)) (gdV (by decide +kernel) gdwsRX12_move)
theorem gdwsRX12_finds : wsRX12_finds.all goodWord = true := gdC rfl (gdA (gdA (by decide +kernel : ([.fieldLink RX12 290 "OptimaWorksModel" "looked" "[I", .fieldLink RX12 281 "OptimaWorksModel" "with" "[I", .fieldLink RX12 287 "OptimaWorksModel" "came" "[I", .fieldLink RX12 284 "OptimaWorksModel" "taker" "[I"] : List Cond).all goodWord = true) gdwsX120) (gdV (by decide +kernel) gdwsRX12_move))
theorem hm_r_X12_finds_0 : (.fieldLink RX12 290 "OptimaWorksModel" "looked" "[I" : Cond) ∈ wsRX12_finds := by decide +kernel
theorem hm_r_X12_finds_1 : (.fieldLink RX12 287 "OptimaWorksModel" "came" "[I" : Cond) ∈ wsRX12_finds := by decide +kernel
theorem hm_r_X12_finds_2 : (.fieldLink RX12 284 "OptimaWorksModel" "taker" "[I" : Cond) ∈ wsRX12_finds := by decide +kernel
set_option maxHeartbeats 4000000 in
set_option maxRecDepth 100000 in
/-- finds(holder) -/
theorem r_X12_finds (l : Launch) (dC : Nat → ClassId) (dI : Nat → Nat → Nat) (a : Nat → Nat) (k : Nat → ClassId) (h0 : Nat) (vi : Nat → Int32) (vj : Nat → Int64) (vF : Nat → Nat → Int32) (vG : Nat → Nat → Int64) (iN : Nat) (hiN : iN < 10) (hT : TkB (vF 87) iN) (sz : Nat) : Met l yX12_finds wsRX12_finds ({ frames := 1, cells := 0, slots := 0, locals := 27 }) (va_Pc [.ref h0, .int (nI iN)] (fun U => U.heap.size = sz ∧ va_P (dC, dI) vwCl (WR a k h0 vi vj vF vG) U.heap ∧ va_K (dC, dI) vwCl (tX12 k) U ∧ va_D (fun _ => True) (WR a k h0 vi vj vF vG))) (va_Qi (fun (r : Int32) (u : (Nat → Int32) × (Nat → Int32) × (Nat → Int32)) => (r = 1 ∧ (TkB (u.1) (iN + 1))) ∨ (r = 0)) (fun (u : (Nat → Int32) × (Nat → Int32) × (Nat → Int32)) t => va_P (dC, dI) vwCl (WR a k h0 vi vj (fT (fT (fT vF 88 (u.2.1)) 89 (u.2.2)) 87 (u.1)) vG) t.heap ∧ va_D (va_A (WR a k h0 vi vj vF vG) sz) (WR a k h0 vi vj (fT (fT (fT vF 88 (u.2.1)) 89 (u.2.2)) 87 (u.1)) vG)) (va_A (WR a k h0 vi vj vF vG) sz)) 0 0 (va_A (WR a k h0 vi vj vF vG) sz) := by
  refine Met.ofW (cc := cX12_finds) (maxL := 5) (ret := (some .boolean)) (by decide) rfl ?_
  intro p e s m args below meth c s₁ B hml hv
  obtain ⟨rfl, hsz, hP, hK, hD0⟩ := hv
  have hx := B.exec
  have hb := B.bytes
  have hr := B.returns
  have hts := atoms_spec (ws := wsRX12_finds) B.pre
  have hown : s.vm.findClass RX12 = some m.cls := findClass_of_methodNamed B.named
  have hlocks := B.notSynchronized
  subst hsz
  have hD := hD0.self (sz := s.heap.size)
  generalize hAe : va_A (WR a k h0 vi vj vF vG) s.heap.size = A at hD ⊢
  have hA : ∀ q : Nat, s.heap.size ≤ q → A q := fun q h => by rw [← hAe]; exact Or.inr h
  have hS : va_S A s.heap s.heap [] := va_S.rf
  have hl := lv_entry ([.ref h0, .int (nI iN)]) (n := 5) (Nat.le_of_ble_eq_true rfl)
  rw [lg_entry_eq]
  generalize (lg_sl ([.ref h0, .int (nI iN)]) ++ List.replicate (5 - (lg_sl ([.ref h0, .int (nI iN)])).length) Slot.unset).toArray = ls at hl ⊢
  have hl : lv_has ls 5 [(0, .ref h0), (1, .int (nI iN))] := hl
  refine lv_iconst (v := 0) hx hb dX12_finds_0 (by decide) ?_
  refine lv_istore_n hx hb dX12_finds_1 rfl hl (by decide) rfl (fun ls (hl : lv_has ls _ ([(2, .int 0), (0, .ref h0), (1, .int (nI iN))])) => ?_)
  have e9 : fT vF 88 (vF 88) = vF := by funext q9; by_cases h9_88 : q9 = 88; (subst h9_88; exact (fT_eq _ _ _).trans (Eq.trans (by first | with_reducible rfl | with_reducible assumption | (symm; with_reducible assumption) | rfl | assumption | (symm; assumption) | (subst_vars; rfl)) (Eq.refl _).symm)); exact (fT_ne _ _ h9_88).trans (Eq.refl _).symm
  have hP := wr_PF e9 hP
  have hD := wr_DF e9 hD
  clear e9
  have hl : lv_has _ _ ([(0, .ref h0), (1, .int (nI iN)), (2, .int (nI 0))]) := lv_sub hl [1, 2, 0] rfl
  refine (fun (loop : ∀ (n9 : Nat) (v1 : Nat) (cm0 : Nat → Int32) (H : Heap) (locs : List Loc) (ls : Array Slot), (v1 ≤ 16) → (∀ x, x < v1 → cm0 x = -1) →  (16 < v1 + n9) → va_P (dC, dI) vwCl (WR a k h0 vi vj (fT vF 88 cm0) vG) H → va_D A (WR a k h0 vi vj (fT vF 88 cm0) vG) → va_S A s.heap H locs → lv_has ls 5 [(0, .ref h0), (1, .int (nI iN)), (2, .int (nI v1))] → W p l e _ s m _ below meth c H locs 0 0 _ (F0 m 2 ls [])) => loop (17) 0 (vF 88) _ _ _ (by omega) (fun x hx9 => absurd hx9 (by omega)) (by omega) hP hD hS hl) ?_
  intro n9
  induction n9 with
  | zero => intro v1 cm0 H locs ls hv1 hz1 hf9; exact False.elim (by omega)
  | succ n9 ih2 =>
    intro v1 cm0 H locs ls hv1 hz1 hf2 hP hD hS hl
    refine lv_iload_n hx hb dX12_finds_2 rfl (lv_at hl 2 rfl) ?_
    refine lv_bipush (v := 16) hx hb dX12_finds_3 (by decide) ?_
    refine lv_icmp_ge (tgt := 21) hx hb dX12_finds_5 (by decide) (fun c_5 => ?_) (fun c_5 => ?_)
    · have t_5 : ((v1 : Nat) : Int) ≥ 16 := toI_ge c_5 (nI_toInt (by omega)) (by decide)
      refine lv_iconst (v := 1) hx hb dX12_finds_21 (by decide) ?_
      refine lv_istore_n hx hb dX12_finds_22 rfl hl (by decide) rfl (fun ls (hl : lv_has ls _ ([(2, .int 1), (0, .ref h0), (1, .int (nI iN))])) => ?_)
      refine lv_aload_n hx hb dX12_finds_23 rfl (lv_at hl 1 rfl) ?_
      refine va_get (D := (dC, dI)) (ci := 12) (v := .ref (a 89)) (C := RX12) (T := TX12) (N := 163) (fs := fM (vS a vi vj)) hx hb hts iwsRX12_finds_in12 hown hK hP 0 rfl rfl 142 (by decide) (hts _ hm_r_X12_finds_0) (fun _ h9 => h9) rfl dX12_finds_24 ?_
      refine lv_iconst (v := 0) hx hb dX12_finds_27 (by decide) ?_
      refine lv_iload_n hx hb dX12_finds_28 rfl (lv_at hl 2 rfl) ?_
      refine va_iast (cA := k 89) (n := 17) (f := (vF 89)) hx hb hK hP hD hS 90 89 (WR_get 89 (by decide)) (TR_get 89 (by decide)) (show ¬ ((0 : Int32) < 0 ∨ 17 ≤ (0 : Int32).toNatClampNeg) by decide) dX12_finds_29 (fun H locs hP hD hS => ?_)
      have hP : va_P (dC, dI) vwCl (WR a k h0 vi vj (fT (fT vF 88 cm0) 89 (upd (vF 89) (0 : Int32).toNatClampNeg (nI iN))) vG) H := fz_w (WR_F 89 (by decide) _ rfl) hP
      have hD : va_D A (WR a k h0 vi vj (fT (fT vF 88 cm0) 89 (upd (vF 89) (0 : Int32).toNatClampNeg (nI iN))) vG) := fz_wD (WR_F 89 (by decide) _ rfl) hD
      refine lv_iconst (v := 0) hx hb dX12_finds_30 (by decide) ?_
      refine lv_istore_n hx hb dX12_finds_31 rfl hl (by decide) rfl (fun ls (hl : lv_has ls _ ([(3, .int 0), (2, .int 1), (0, .ref h0), (1, .int (nI iN))])) => ?_)
      have hl : lv_has _ _ ([(0, .ref h0), (1, .int (nI iN)), (2, .int (nI 1)), (3, .int (nI 0))]) := lv_sub hl [2, 3, 1, 0] rfl
      refine (fun (loop : ∀ (n9 : Nat) (k5 : Nat) (M5 : Nat) (cm : Nat → Int32) (lk : Nat → Int32) (H : Heap) (locs : List Loc) (ls : Array Slot), (M5 ≤ 17 ∧ k5 ≤ M5) → (M5 ≤ nvs cm 16 + 1) → (Bfs (vF 87) cm lk iN M5) →  (17 < k5 + n9) → va_P (dC, dI) vwCl (WR a k h0 vi vj (fT (fT vF 88 cm) 89 lk) vG) H → va_D A (WR a k h0 vi vj (fT (fT vF 88 cm) 89 lk) vG) → va_S A s.heap H locs → lv_has ls 5 [(0, .ref h0), (1, .int (nI iN)), (2, .int (nI M5)), (3, .int (nI k5))] → W p l e _ s m _ below meth c H locs 0 0 _ (F0 m 32 ls [])) => loop (18) 0 1 cm0 (upd (vF 89) (0 : Int32).toNatClampNeg (nI iN)) _ _ _ (by omega) (by omega) (Bfs.init hiN rfl) (by omega) hP hD hS hl) ?_
      intro n9
      induction n9 with
      | zero => intro k5 M5 cm lk H locs ls hM5 hMn hBf hf9; exact False.elim (by omega)
      | succ n9 ih32_1 =>
        intro k5 M5 cm lk H locs ls hM5 hMn hBf hf32_1 hP hD hS hl
        refine lv_iload_n hx hb dX12_finds_32 rfl (lv_at hl 3 rfl) ?_
        refine lv_iload_n hx hb dX12_finds_33 rfl (lv_at hl 2 rfl) ?_
        refine lv_icmp_ge (tgt := 144) hx hb dX12_finds_34 (by decide) (fun c_34 => ?_) (fun c_34 => ?_)
        · have t_34 : ((k5 : Nat) : Int) ≥ ((M5 : Nat) : Int) := toI_ge c_34 (nI_toInt (by omega)) (nI_toInt (by omega))
          refine lv_iconst (v := 0) hx hb dX12_finds_144 (by decide) ?_
          refine W.widen (k := 0) (n := 0) (by decide +kernel) (by decide +kernel) ?_
          have e9 : fT (fT (fT vF 88 cm) 89 lk) 87 (vF 87) = fT (fT vF 88 cm) 89 lk := fT_id _ _ ((fT_ne _ _ (Nat.ne_of_beq_eq_false rfl)).trans (fT_ne _ _ (Nat.ne_of_beq_eq_false rfl)))
          have hP := wr_PF e9 hP
          have hD := wr_DF e9 hD
          clear e9
          exact W.zret (v := 0) hx hb hr rfl (fun t9_ ht hW => ⟨⟨0, ((vF 87), cm, lk), rfl, by (try dsimp only); exact Or.inr rfl, by rw [ht]; exact hP, hD⟩, hS.F ht⟩) hS.2.2 dX12_finds_145
        · have t_34 : ¬ ((k5 : Nat) : Int) ≥ ((M5 : Nat) : Int) := toI_nge c_34 (nI_toInt (by omega)) (nI_toInt (by omega))
          refine lv_iconst (v := 0) hx hb dX12_finds_37 (by decide) ?_
          refine lv_istore hx hb dX12_finds_38 hl (by decide) rfl (fun ls (hl : lv_has ls _ ([(4, .int 0), (0, .ref h0), (1, .int (nI iN)), (2, .int (nI M5)), (3, .int (nI k5))])) => ?_)
          have hl : lv_has _ _ ([(0, .ref h0), (1, .int (nI iN)), (2, .int (nI M5)), (3, .int (nI k5)), (4, .int (nI 0))]) := lv_sub hl [1, 2, 3, 4, 0] rfl
          refine (fun (loop : ∀ (n9 : Nat) (v5 : Nat) (M5 : Nat) (cm : Nat → Int32) (lk : Nat → Int32) (H : Heap) (locs : List Loc) (ls : Array Slot), (v5 ≤ 16) → (M5 ≤ 17 ∧ k5 < M5) → (M5 ≤ nvs cm 16 + 1) → (Bfs (vF 87) cm lk iN M5) →  (16 < v5 + n9) → va_P (dC, dI) vwCl (WR a k h0 vi vj (fT (fT vF 88 cm) 89 lk) vG) H → va_D A (WR a k h0 vi vj (fT (fT vF 88 cm) 89 lk) vG) → va_S A s.heap H locs → lv_has ls 5 [(0, .ref h0), (1, .int (nI iN)), (2, .int (nI M5)), (3, .int (nI k5)), (4, .int (nI v5))] → W p l e _ s m _ below meth c H locs 0 0 _ (F0 m 40 ls [])) => loop (17) 0 M5 cm lk _ _ _ (by omega) (by omega) (hMn) (hBf) (by omega) hP hD hS hl) ?_
          intro n9
          induction n9 with
          | zero => intro v5 M5 cm lk H locs ls hv5 hM5 hMn hBf hf9; exact False.elim (by omega)
          | succ n9 ih40_2 =>
            intro v5 M5 cm lk H locs ls hv5 hM5 hMn hBf hf40_2 hP hD hS hl
            refine lv_iload hx hb dX12_finds_40 (lv_at hl 4 rfl) ?_
            refine lv_bipush (v := 16) hx hb dX12_finds_42 (by decide) ?_
            refine lv_icmp_ge (tgt := 138) hx hb dX12_finds_44 (by decide) (fun c_44 => ?_) (fun c_44 => ?_)
            · have t_44 : ((v5 : Nat) : Int) ≥ 16 := toI_ge c_44 (nI_toInt (by omega)) (by decide)
              refine lv_iinc (v := (nI (k5 + 1))) hx hb dX12_finds_138 hl (k := 3) rfl (nI_add k5 1) (by decide) rfl (fun ls (hl : lv_has ls _ ([(3, .int (nI (k5 + 1))), (0, .ref h0), (1, .int (nI iN)), (2, .int (nI M5)), (4, .int (nI v5))])) => ?_)
              refine lv_goto (tgt := 32) hx hb dX12_finds_141 (by decide) ?_
              have hl : lv_has _ _ ([(0, .ref h0), (1, .int (nI iN)), (2, .int (nI M5)), (3, .int (nI (k5 + 1)))]) := lv_sub hl [1, 2, 3, 0] rfl
              exact ih32_1 (k5 + 1) M5 cm lk _ _ _ (by omega) (hMn) (hBf) (by omega) hP hD hS hl
            · have t_44 : ¬ ((v5 : Nat) : Int) ≥ 16 := toI_nge c_44 (nI_toInt (by omega)) (by decide)
              obtain ⟨h5, hh5, eh5, hh6⟩ := hBf.2.2.2 k5 (by omega)
              refine lv_aload_n hx hb dX12_finds_47 rfl (lv_at hl 0 rfl) ?_
              refine va_get (D := (dC, dI)) (ci := 12) (v := .ref (a 86)) (C := RX12) (T := TX12) (N := 163) (fs := fM (vS a vi vj)) hx hb hts iwsRX12_finds_in12 hown hK hP 0 rfl rfl 139 (by decide) (hts (.fieldLink RX12 281 "OptimaWorksModel" "with" "[I") (by decide +kernel)) (fun _ h9 => h9) rfl dX12_finds_48 ?_
              refine lv_aload_n hx hb dX12_finds_51 rfl (lv_at hl 0 rfl) ?_
              refine va_get (D := (dC, dI)) (ci := 12) (v := .ref (a 89)) (C := RX12) (T := TX12) (N := 163) (fs := fM (vS a vi vj)) hx hb hts iwsRX12_finds_in12 hown hK hP 0 rfl rfl 142 (by decide) (hts _ hm_r_X12_finds_0) (fun _ h9 => h9) rfl dX12_finds_52 ?_
              refine lv_iload_n hx hb dX12_finds_55 rfl (lv_at hl 3 rfl) ?_
              refine va_iald (cA := k 89) (n := 17) (f := lk) hx hb hK hP 90 89 (WR_get 89 (by decide)) (TR_get 89 (by decide)) (vp_in_nI (show k5 < 17 by omega) (by omega)) dX12_finds_56 ?_
              refine lv_topi (fun y1 hy1 => ?_)
              obtain rfl : (lk k5) = y1 := (hy1.trans (by rw [nI_clamp (by omega)])).symm
              refine lv_topi (fun y2 hy2 => ?_)
              obtain rfl : (nI h5) = y2 := (hy2.trans (eh5)).symm
              refine va_iald (cA := k 86) (n := 10) (f := (vF 86)) hx hb hK hP 87 86 (WR_get 86 (by decide)) (TR_get 86 (by decide)) (vp_in_nI (show h5 < 10 by omega) (by omega)) dX12_finds_57 ?_
              refine lv_topi (fun y3 hy3 => ?_)
              obtain rfl : ((vF 86) h5) = y3 := (hy3.trans (by rw [nI_clamp (by omega)])).symm
              refine lv_iload hx hb dX12_finds_58 (lv_at hl 4 rfl) ?_
              refine lv_ishr hx hb dX12_finds_60 ?_
              refine lv_iconst (v := 1) hx hb dX12_finds_61 (by decide) ?_
              refine lv_iand hx hb dX12_finds_62 ?_
              refine lv_if_eq (tgt := 132) hx hb dX12_finds_63 (by decide) (fun c_63 => ?_) (fun c_63 => ?_)
              · have t_63 : (((((vF 86) h5) >>> ((nI v5) &&& 31)) &&& 1)).toInt = 0 := toI_eq c_63 rfl (by decide)
                refine lv_iinc (v := (nI (v5 + 1))) hx hb dX12_finds_132 hl (k := 4) rfl (nI_add v5 1) (by decide) rfl (fun ls (hl : lv_has ls _ ([(4, .int (nI (v5 + 1))), (0, .ref h0), (1, .int (nI iN)), (2, .int (nI M5)), (3, .int (nI k5))])) => ?_)
                refine lv_goto (tgt := 40) hx hb dX12_finds_135 (by decide) ?_
                have hl : lv_has _ _ ([(0, .ref h0), (1, .int (nI iN)), (2, .int (nI M5)), (3, .int (nI k5)), (4, .int (nI (v5 + 1)))]) := lv_sub hl [1, 2, 3, 4, 0] rfl
                exact ih40_2 (v5 + 1) M5 cm lk _ _ _ (by omega) (by omega) (hMn) (hBf) (by omega) hP hD hS hl
              · have t_63 : ¬ (((((vF 86) h5) >>> ((nI v5) &&& 31)) &&& 1)).toInt = 0 := toI_neq c_63 rfl (by decide)
                refine lv_aload_n hx hb dX12_finds_66 rfl (lv_at hl 0 rfl) ?_
                refine va_get (D := (dC, dI)) (ci := 12) (v := .ref (a 88)) (C := RX12) (T := TX12) (N := 163) (fs := fM (vS a vi vj)) hx hb hts iwsRX12_finds_in12 hown hK hP 0 rfl rfl 141 (by decide) (hts _ hm_r_X12_finds_1) (fun _ h9 => h9) rfl dX12_finds_67 ?_
                refine lv_iload hx hb dX12_finds_70 (lv_at hl 4 rfl) ?_
                refine va_iald (cA := k 88) (n := 16) (f := cm) hx hb hK hP 89 88 (WR_get 88 (by decide)) (TR_get 88 (by decide)) (vp_in_nI (show v5 < 16 by omega) (by omega)) dX12_finds_72 ?_
                refine lv_topi (fun y4 hy4 => ?_)
                obtain rfl : (cm v5) = y4 := (hy4.trans (by rw [nI_clamp (by omega)])).symm
                refine lv_iconst (v := (-1)) hx hb dX12_finds_73 (by decide) ?_
                refine lv_icmp_eq (tgt := 80) hx hb dX12_finds_74 (by decide) (fun c_74 => ?_) (fun c_74 => ?_)
                · have t_74 : ((cm v5)).toInt = -1 := toI_eq c_74 rfl (by decide)
                  have hcv : cm v5 = -1 := c_74
                  refine lv_aload_n hx hb dX12_finds_80 rfl (lv_at hl 0 rfl) ?_
                  refine va_get (D := (dC, dI)) (ci := 12) (v := .ref (a 88)) (C := RX12) (T := TX12) (N := 163) (fs := fM (vS a vi vj)) hx hb hts iwsRX12_finds_in12 hown hK hP 0 rfl rfl 141 (by decide) (hts _ hm_r_X12_finds_1) (fun _ h9 => h9) rfl dX12_finds_81 ?_
                  refine lv_iload hx hb dX12_finds_84 (lv_at hl 4 rfl) ?_
                  refine lv_aload_n hx hb dX12_finds_86 rfl (lv_at hl 0 rfl) ?_
                  refine va_get (D := (dC, dI)) (ci := 12) (v := .ref (a 89)) (C := RX12) (T := TX12) (N := 163) (fs := fM (vS a vi vj)) hx hb hts iwsRX12_finds_in12 hown hK hP 0 rfl rfl 142 (by decide) (hts _ hm_r_X12_finds_0) (fun _ h9 => h9) rfl dX12_finds_87 ?_
                  refine lv_iload_n hx hb dX12_finds_90 rfl (lv_at hl 3 rfl) ?_
                  refine va_iald (cA := k 89) (n := 17) (f := lk) hx hb hK hP 90 89 (WR_get 89 (by decide)) (TR_get 89 (by decide)) (vp_in_nI (show k5 < 17 by omega) (by omega)) dX12_finds_91 ?_
                  refine lv_topi (fun y5 hy5 => ?_)
                  obtain rfl : (lk k5) = y5 := (hy5.trans (by rw [nI_clamp (by omega)])).symm
                  refine lv_topi (fun y6 hy6 => ?_)
                  obtain rfl : (nI h5) = y6 := (hy6.trans (eh5)).symm
                  refine va_iast (cA := k 88) (n := 16) (f := cm) hx hb hK hP hD hS 89 88 (WR_get 88 (by decide)) (TR_get 88 (by decide)) (vp_in_nI (show v5 < 16 by omega) (by omega)) dX12_finds_92 (fun H locs hP hD hS => ?_)
                  have e9 : fT (fT vF 88 (upd cm ((nI v5)).toNatClampNeg (nI h5))) 89 lk = fT (fT (fT vF 88 cm) 89 lk) 88 (upd cm ((nI v5)).toNatClampNeg (nI h5)) := ((fT_sw _ _ _ (Nat.ne_of_beq_eq_false rfl)).trans (congrArg (fun g9 => fT g9 89 lk) (fT_sm _ _ _ _))).symm
                  have hP := wr_PF e9 (fz_w (WR_F 88 (by decide) _ rfl) hP)
                  have hD := wr_DF e9 (fz_wD (WR_F 88 (by decide) _ rfl) hD)
                  clear e9
                  refine lv_aload_n hx hb dX12_finds_93 rfl (lv_at hl 0 rfl) ?_
                  refine va_get (D := (dC, dI)) (ci := 12) (v := .ref (a 87)) (C := RX12) (T := TX12) (N := 163) (fs := fM (vS a vi vj)) hx hb hts iwsRX12_finds_in12 hown hK hP 0 rfl rfl 140 (by decide) (hts _ hm_r_X12_finds_2) (fun _ h9 => h9) rfl dX12_finds_94 ?_
                  refine lv_iload hx hb dX12_finds_97 (lv_at hl 4 rfl) ?_
                  refine va_iald (cA := k 87) (n := 16) (f := (vF 87)) hx hb hK hP 88 87 (WR_get 87 (by decide)) (TR_get 87 (by decide)) (vp_in_nI (show v5 < 16 by omega) (by omega)) dX12_finds_99 ?_
                  refine lv_topi (fun y7 hy7 => ?_)
                  obtain rfl : ((vF 87) v5) = y7 := (hy7.trans (by rw [nI_clamp (by omega)])).symm
                  refine lv_iconst (v := (-1)) hx hb dX12_finds_100 (by decide) ?_
                  refine lv_icmp_eq (tgt := 123) hx hb dX12_finds_101 (by decide) (fun c_101 => ?_) (fun c_101 => ?_)
                  · have t_101 : (((vF 87) v5)).toInt = -1 := toI_eq c_101 rfl (by decide)
                    have hBm := hBf.mark (cm2 := upd cm (nI v5).toNatClampNeg (nI h5)) hcv (fun x hx9 => by rw [upd_at (by omega), if_neg hx9])
                    refine lv_aload_n hx hb dX12_finds_123 rfl (lv_at hl 0 rfl) ?_
                    refine lv_iload_n hx hb dX12_finds_124 rfl (lv_at hl 1 rfl) ?_
                    refine lv_iload hx hb dX12_finds_125 (lv_at hl 4 rfl) ?_
                    have hFc := allFree hD hS hA
                    refine va_callv (va_runV (As := [.int (nI iN), .int (nI v5)]) (rest := []) ⟨hx, hb, hml, hown, hts⟩ (r_X12_move l dC dI a k h0 vi vj (fT (fT vF 88 (upd cm ((nI v5)).toNatClampNeg (nI h5))) 89 lk) vG iN v5 k5 (by first | with_reducible assumption | decide | omega | rfl | assumption) (by first | with_reducible assumption | decide | omega | rfl | assumption) (by first | with_reducible assumption | decide | omega | rfl | assumption) (by show upd cm (nI v5).toNatClampNeg (nI h5) v5 = lk k5; rw [upd_at (by omega), if_pos rfl, eh5]) (c_101) (hT) (hBm.chn (by omega)) (fun q9 hq9 => by obtain ⟨h9, h8, h7, _⟩ := hBf.2.2.2 q9 (by omega); exact ⟨h9, h8, h7⟩) H.size) (cwV 2 hts gwsRX12_finds_0 rfl rfl rfl hd_yX12_move_RX12 (by decide +kernel)) (fz_pre (va_recv hK hP (ci := 12) (q0 := 0) rfl rfl) hP hK hD) rfl rfl hl.1 rfl (lv_room (Nat.le_of_ble_eq_true rfl)) dX12_finds_127 (by decide +kernel)) hS (fun q _ h => hFc q h) hFc (fun g87127 t9_ H locs ht hvm hw9 hB9 hz1 hk1 hS => ?_)
                    have hP : va_P (dC, dI) vwCl (WR a k h0 vi vj (fT (fT (fT vF 88 (upd cm ((nI v5)).toNatClampNeg (nI h5))) 89 lk) 87 g87127) vG) H := fz_P ht hB9.1
                    have hD := fz_sd hP (hB9.2.weaken (fun _ q _ h => hFc q.1 h)) rfl
                    have f127_0 := hw9
                    try dsimp only at f127_0
                    refine lv_iconst (v := 1) hx hb dX12_finds_130 (by decide) ?_
                    refine W.widen (k := 0) (n := 0) (by decide +kernel) (by decide +kernel) ?_
                    exact W.zret (v := 1) hx hb hr rfl (fun t9_ ht hW => ⟨⟨1, (g87127, (upd cm ((nI v5)).toNatClampNeg (nI h5)), lk), rfl, by (try dsimp only); exact Or.inl ⟨rfl, f127_0⟩, by rw [ht]; exact hP, hD⟩, hS.F ht⟩) hS.2.2 dX12_finds_131
                  · have t_101 : ¬ (((vF 87) v5)).toInt = -1 := toI_neq c_101 rfl (by decide)
                    have hnv := nvs_up (cm := cm) (cm2 := upd cm (nI v5).toNatClampNeg (nI h5)) (v := v5) hcv (by rw [upd_at (by omega), if_pos rfl]; exact nI_nm1 (by omega)) (fun x hx9 => by rw [upd_at (by omega), if_neg hx9]) 16 (by omega)
                    have hnl := nvs_le (upd cm (nI v5).toNatClampNeg (nI h5)) 16
                    have hM16 : M5 < 17 := by omega
                    refine lv_aload_n hx hb dX12_finds_104 rfl (lv_at hl 0 rfl) ?_
                    refine va_get (D := (dC, dI)) (ci := 12) (v := .ref (a 89)) (C := RX12) (T := TX12) (N := 163) (fs := fM (vS a vi vj)) hx hb hts iwsRX12_finds_in12 hown hK hP 0 rfl rfl 142 (by decide) (hts _ hm_r_X12_finds_0) (fun _ h9 => h9) rfl dX12_finds_105 ?_
                    refine lv_iload_n hx hb dX12_finds_108 rfl (lv_at hl 2 rfl) ?_
                    refine lv_aload_n hx hb dX12_finds_109 rfl (lv_at hl 0 rfl) ?_
                    refine va_get (D := (dC, dI)) (ci := 12) (v := .ref (a 87)) (C := RX12) (T := TX12) (N := 163) (fs := fM (vS a vi vj)) hx hb hts iwsRX12_finds_in12 hown hK hP 0 rfl rfl 140 (by decide) (hts _ hm_r_X12_finds_2) (fun _ h9 => h9) rfl dX12_finds_110 ?_
                    refine lv_iload hx hb dX12_finds_113 (lv_at hl 4 rfl) ?_
                    refine va_iald (cA := k 87) (n := 16) (f := (vF 87)) hx hb hK hP 88 87 (WR_get 87 (by decide)) (TR_get 87 (by decide)) (vp_in_nI (show v5 < 16 by omega) (by omega)) dX12_finds_115 ?_
                    refine lv_topi (fun y8 hy8 => ?_)
                    obtain rfl : ((vF 87) v5) = y8 := (hy8.trans (by rw [nI_clamp (by omega)])).symm
                    refine va_iast (cA := k 89) (n := 17) (f := lk) hx hb hK hP hD hS 90 89 (WR_get 89 (by decide)) (TR_get 89 (by decide)) (vp_in_nI (show M5 < 17 by omega) (by omega)) dX12_finds_116 (fun H locs hP hD hS => ?_)
                    have e9 : fT (fT vF 88 (upd cm ((nI v5)).toNatClampNeg (nI h5))) 89 (upd lk ((nI M5)).toNatClampNeg ((vF 87) v5)) = fT (fT (fT vF 88 (upd cm ((nI v5)).toNatClampNeg (nI h5))) 89 lk) 89 (upd lk ((nI M5)).toNatClampNeg ((vF 87) v5)) := (fT_sm _ _ _ _).symm
                    have hP := wr_PF e9 (fz_w (WR_F 89 (by decide) _ rfl) hP)
                    have hD := wr_DF e9 (fz_wD (WR_F 89 (by decide) _ rfl) hD)
                    clear e9
                    refine lv_iinc (v := (nI (M5 + 1))) hx hb dX12_finds_117 hl (k := 2) rfl (nI_add M5 1) (by decide) rfl (fun ls (hl : lv_has ls _ ([(2, .int (nI (M5 + 1))), (0, .ref h0), (1, .int (nI iN)), (3, .int (nI k5)), (4, .int (nI v5))])) => ?_)
                    refine lv_goto (tgt := 132) hx hb dX12_finds_120 (by decide) ?_
                    refine lv_iinc (v := (nI (v5 + 1))) hx hb dX12_finds_132 hl (k := 4) rfl (nI_add v5 1) (by decide) rfl (fun ls (hl : lv_has ls _ ([(4, .int (nI (v5 + 1))), (2, .int (nI (M5 + 1))), (0, .ref h0), (1, .int (nI iN)), (3, .int (nI k5))])) => ?_)
                    refine lv_goto (tgt := 40) hx hb dX12_finds_135 (by decide) ?_
                    have hl : lv_has _ _ ([(0, .ref h0), (1, .int (nI iN)), (2, .int (nI (M5 + 1))), (3, .int (nI k5)), (4, .int (nI (v5 + 1)))]) := lv_sub hl [2, 3, 1, 4, 0] rfl
                    exact ih40_2 (v5 + 1) (M5 + 1) (upd cm ((nI v5)).toNatClampNeg (nI h5)) (upd lk ((nI M5)).toNatClampNeg ((vF 87) v5)) _ _ _ (by omega) (by omega) (by (have h9 := hnv); omega) (hBf.push (k := k5) hT hiN (by omega) hcv c_101 (by omega) (fun x hx9 => by rw [upd_at (by omega), if_neg hx9]) (by rw [upd_at (by omega), if_pos rfl, eh5]) (fun q9 hq9 => by rw [upd_at (by omega), if_neg (by omega)]) (by rw [upd_at (by omega), if_pos rfl])) (by omega) hP hD hS hl
                · have t_74 : ¬ ((cm v5)).toInt = -1 := toI_neq c_74 rfl (by decide)
                  refine lv_goto (tgt := 132) hx hb dX12_finds_77 (by decide) ?_
                  refine lv_iinc (v := (nI (v5 + 1))) hx hb dX12_finds_132 hl (k := 4) rfl (nI_add v5 1) (by decide) rfl (fun ls (hl : lv_has ls _ ([(4, .int (nI (v5 + 1))), (0, .ref h0), (1, .int (nI iN)), (2, .int (nI M5)), (3, .int (nI k5))])) => ?_)
                  refine lv_goto (tgt := 40) hx hb dX12_finds_135 (by decide) ?_
                  have hl : lv_has _ _ ([(0, .ref h0), (1, .int (nI iN)), (2, .int (nI M5)), (3, .int (nI k5)), (4, .int (nI (v5 + 1)))]) := lv_sub hl [1, 2, 3, 4, 0] rfl
                  exact ih40_2 (v5 + 1) M5 cm lk _ _ _ (by omega) (by omega) (hMn) (hBf) (by omega) hP hD hS hl
    · have t_5 : ¬ ((v1 : Nat) : Int) ≥ 16 := toI_nge c_5 (nI_toInt (by omega)) (by decide)
      refine lv_aload_n hx hb dX12_finds_8 rfl (lv_at hl 0 rfl) ?_
      refine va_get (D := (dC, dI)) (ci := 12) (v := .ref (a 88)) (C := RX12) (T := TX12) (N := 163) (fs := fM (vS a vi vj)) hx hb hts iwsRX12_finds_in12 hown hK hP 0 rfl rfl 141 (by decide) (hts _ hm_r_X12_finds_1) (fun _ h9 => h9) rfl dX12_finds_9 ?_
      refine lv_iload_n hx hb dX12_finds_12 rfl (lv_at hl 2 rfl) ?_
      refine lv_iconst (v := (-1)) hx hb dX12_finds_13 (by decide) ?_
      refine va_iast (cA := k 88) (n := 16) (f := cm0) hx hb hK hP hD hS 89 88 (WR_get 88 (by decide)) (TR_get 88 (by decide)) (vp_in_nI (show v1 < 16 by omega) (by omega)) dX12_finds_14 (fun H locs hP hD hS => ?_)
      have e9 : fT vF 88 (upd cm0 ((nI v1)).toNatClampNeg (-1)) = fT (fT vF 88 cm0) 88 (upd cm0 ((nI v1)).toNatClampNeg (-1)) := (fT_sm _ _ _ _).symm
      have hP := wr_PF e9 (fz_w (WR_F 88 (by decide) _ rfl) hP)
      have hD := wr_DF e9 (fz_wD (WR_F 88 (by decide) _ rfl) hD)
      clear e9
      refine lv_iinc (v := (nI (v1 + 1))) hx hb dX12_finds_15 hl (k := 2) rfl (nI_add v1 1) (by decide) rfl (fun ls (hl : lv_has ls _ ([(2, .int (nI (v1 + 1))), (0, .ref h0), (1, .int (nI iN))])) => ?_)
      refine lv_goto (tgt := 2) hx hb dX12_finds_18 (by decide) ?_
      have hl : lv_has _ _ ([(0, .ref h0), (1, .int (nI iN)), (2, .int (nI (v1 + 1)))]) := lv_sub hl [1, 2, 0] rfl
      exact ih2 (v1 + 1) (upd cm0 ((nI v1)).toNatClampNeg (-1)) _ _ _ (by omega) (fun x hx9 => by rw [upd_at (by omega)]; by_cases e9 : x = v1; (rw [if_pos e9]); (rw [if_neg e9]; exact hz1 x (by omega))) (by omega) hP hD hS hl
theorem dX12_canDiffer_0 : decode cX12_canDiffer 0 = .ok (.iconst 0, 1) := dk_3 (by decide +kernel)
theorem dX12_canDiffer_1 : decode cX12_canDiffer 1 = .ok (.istore_n 2, 1) := dk_61 (by decide +kernel)
theorem dX12_canDiffer_2 : decode cX12_canDiffer 2 = .ok (.iload_n 2, 1) := dk_28 (by decide +kernel)
theorem dX12_canDiffer_3 : decode cX12_canDiffer 3 = .ok (.bipush 16, 2) := dk_16 (by decide +kernel)
theorem dX12_canDiffer_5 : decode cX12_canDiffer 5 = .ok (.if_icmp .ge 16, 3) := dk_162 (by decide +kernel)
theorem dX12_canDiffer_8 : decode cX12_canDiffer 8 = .ok (.aload_n 0, 1) := dk_42 (by decide +kernel)
theorem dX12_canDiffer_9 : decode cX12_canDiffer 9 = .ok (.getfield 284, 3) := dk_180 (by decide +kernel)
theorem dX12_canDiffer_12 : decode cX12_canDiffer 12 = .ok (.iload_n 2, 1) := dk_28 (by decide +kernel)
theorem dX12_canDiffer_13 : decode cX12_canDiffer 13 = .ok (.iconst (-1), 1) := dk_2 (by decide +kernel)
theorem dX12_canDiffer_14 : decode cX12_canDiffer 14 = .ok (.iastore, 1) := dk_79 (by decide +kernel)
theorem dX12_canDiffer_15 : decode cX12_canDiffer 15 = .ok (.iinc 2 1, 3) := dk_132 (by decide +kernel)
theorem dX12_canDiffer_18 : decode cX12_canDiffer 18 = .ok (.goto (-16), 3) := dk_167 (by decide +kernel)
theorem dX12_canDiffer_21 : decode cX12_canDiffer 21 = .ok (.iconst 0, 1) := dk_3 (by decide +kernel)
theorem dX12_canDiffer_22 : decode cX12_canDiffer 22 = .ok (.istore_n 2, 1) := dk_61 (by decide +kernel)
theorem dX12_canDiffer_23 : decode cX12_canDiffer 23 = .ok (.iload_n 2, 1) := dk_28 (by decide +kernel)
theorem dX12_canDiffer_24 : decode cX12_canDiffer 24 = .ok (.aload_n 0, 1) := dk_42 (by decide +kernel)
theorem dX12_canDiffer_25 : decode cX12_canDiffer 25 = .ok (.getfield 978, 3) := dk_180 (by decide +kernel)
theorem dX12_canDiffer_28 : decode cX12_canDiffer 28 = .ok (.if_icmp .ge 28, 3) := dk_162 (by decide +kernel)
theorem dX12_canDiffer_31 : decode cX12_canDiffer 31 = .ok (.iload_n 1, 1) := dk_27 (by decide +kernel)
theorem dX12_canDiffer_32 : decode cX12_canDiffer 32 = .ok (.iload_n 2, 1) := dk_28 (by decide +kernel)
theorem dX12_canDiffer_33 : decode cX12_canDiffer 33 = .ok (.ishr, 1) := dk_122 (by decide +kernel)
theorem dX12_canDiffer_34 : decode cX12_canDiffer 34 = .ok (.iconst 1, 1) := dk_4 (by decide +kernel)
theorem dX12_canDiffer_35 : decode cX12_canDiffer 35 = .ok (.iand, 1) := dk_126 (by decide +kernel)
theorem dX12_canDiffer_36 : decode cX12_canDiffer 36 = .ok (.iconst 1, 1) := dk_4 (by decide +kernel)
theorem dX12_canDiffer_37 : decode cX12_canDiffer 37 = .ok (.if_icmp .ne 13, 3) := dk_160 (by decide +kernel)
theorem dX12_canDiffer_40 : decode cX12_canDiffer 40 = .ok (.aload_n 0, 1) := dk_42 (by decide +kernel)
theorem dX12_canDiffer_41 : decode cX12_canDiffer 41 = .ok (.iload_n 2, 1) := dk_28 (by decide +kernel)
theorem dX12_canDiffer_42 : decode cX12_canDiffer 42 = .ok (.invokevirtual 1013, 3) := dk_182 (by decide +kernel)
theorem dX12_canDiffer_45 : decode cX12_canDiffer 45 = .ok (.ifCond .ne 5, 3) := dk_154 (by decide +kernel)
theorem dX12_canDiffer_48 : decode cX12_canDiffer 48 = .ok (.iconst 0, 1) := dk_3 (by decide +kernel)
theorem dX12_canDiffer_49 : decode cX12_canDiffer 49 = .ok (.ireturn, 1) := dk_172 (by decide +kernel)
theorem dX12_canDiffer_50 : decode cX12_canDiffer 50 = .ok (.iinc 2 1, 3) := dk_132 (by decide +kernel)
theorem dX12_canDiffer_53 : decode cX12_canDiffer 53 = .ok (.goto (-30), 3) := dk_167 (by decide +kernel)
theorem dX12_canDiffer_56 : decode cX12_canDiffer 56 = .ok (.iconst 1, 1) := dk_4 (by decide +kernel)
theorem dX12_canDiffer_57 : decode cX12_canDiffer 57 = .ok (.ireturn, 1) := dk_172 (by decide +kernel)
def wsRX12_canDiffer : List Cond := .code yX12_canDiffer cX12_canDiffer 3 (some .boolean) :: ([.fieldLink RX12 978 "OptimaWorksModel" "holders" "I", .fieldLink RX12 284 "OptimaWorksModel" "taker" "[I"] ++ wsX120 ++ (wsV RX12 1013 RX12 yX12_finds wsRX12_finds))
theorem iwsRX12_canDiffer_in12 : ∀ w ∈ wsX120, w ∈ wsRX12_canDiffer := fun _ h => List.mem_cons_of_mem _ (List.mem_append_left _ (List.mem_append_right _ h))
theorem gwsRX12_canDiffer_0 : GoodIn wsRX12_canDiffer (wsV RX12 1013 RX12 yX12_finds wsRX12_finds) := goodIn_sub (fun _ h => List.mem_cons_of_mem _ (List.mem_append_right _ h)) (gdV (by decide +kernel) gdwsRX12_finds)
theorem gdwsRX12_canDiffer : wsRX12_canDiffer.all goodWord = true := gdC rfl (gdA (gdA (by decide +kernel : ([.fieldLink RX12 978 "OptimaWorksModel" "holders" "I", .fieldLink RX12 284 "OptimaWorksModel" "taker" "[I"] : List Cond).all goodWord = true) gdwsX120) (gdV (by decide +kernel) gdwsRX12_finds))
set_option maxHeartbeats 4000000 in
set_option maxRecDepth 100000 in
/-- canDiffer(set) -/
theorem r_X12_canDiffer (l : Launch) (dC : Nat → ClassId) (dI : Nat → Nat → Nat) (a : Nat → Nat) (k : Nat → ClassId) (h0 : Nat) (vi : Nat → Int32) (vj : Nat → Int64) (vF : Nat → Nat → Int32) (vG : Nat → Nat → Int64) (sI : Int32) (hn : Nat) (hhn : vi 128 = nI hn) (hhn10 : hn ≤ 10) (sz : Nat) : Met l yX12_canDiffer wsRX12_canDiffer ({ frames := 2, cells := 0, slots := 0, locals := 51 }) (va_Pc [.ref h0, .int sI] (fun U => U.heap.size = sz ∧ va_P (dC, dI) vwCl (WR a k h0 vi vj vF vG) U.heap ∧ va_K (dC, dI) vwCl (tX12 k) U ∧ va_D (fun _ => True) (WR a k h0 vi vj vF vG))) (va_Qi (fun (r : Int32) (u : (Nat → Int32) × (Nat → Int32) × (Nat → Int32)) => (r = 1) ∨ (r = 0)) (fun (u : (Nat → Int32) × (Nat → Int32) × (Nat → Int32)) t => va_P (dC, dI) vwCl (WR a k h0 vi vj (fT (fT (fT vF 87 (u.1)) 88 (u.2.1)) 89 (u.2.2)) vG) t.heap ∧ va_D (va_A (WR a k h0 vi vj vF vG) sz) (WR a k h0 vi vj (fT (fT (fT vF 87 (u.1)) 88 (u.2.1)) 89 (u.2.2)) vG)) (va_A (WR a k h0 vi vj vF vG) sz)) 0 0 (va_A (WR a k h0 vi vj vF vG) sz) := by
  refine Met.ofW (cc := cX12_canDiffer) (maxL := 3) (ret := (some .boolean)) (by decide) rfl ?_
  intro p e s m args below meth c s₁ B hml hv
  obtain ⟨rfl, hsz, hP, hK, hD0⟩ := hv
  have hx := B.exec
  have hb := B.bytes
  have hr := B.returns
  have hts := atoms_spec (ws := wsRX12_canDiffer) B.pre
  have hown : s.vm.findClass RX12 = some m.cls := findClass_of_methodNamed B.named
  have hlocks := B.notSynchronized
  subst hsz
  have hD := hD0.self (sz := s.heap.size)
  generalize hAe : va_A (WR a k h0 vi vj vF vG) s.heap.size = A at hD ⊢
  have hA : ∀ q : Nat, s.heap.size ≤ q → A q := fun q h => by rw [← hAe]; exact Or.inr h
  have hS : va_S A s.heap s.heap [] := va_S.rf
  have hl := lv_entry ([.ref h0, .int sI]) (n := 3) (Nat.le_of_ble_eq_true rfl)
  rw [lg_entry_eq]
  generalize (lg_sl ([.ref h0, .int sI]) ++ List.replicate (3 - (lg_sl ([.ref h0, .int sI])).length) Slot.unset).toArray = ls at hl ⊢
  have hl : lv_has ls 3 [(0, .ref h0), (1, .int sI)] := hl
  refine lv_iconst (v := 0) hx hb dX12_canDiffer_0 (by decide) ?_
  refine lv_istore_n hx hb dX12_canDiffer_1 rfl hl (by decide) rfl (fun ls (hl : lv_has ls _ ([(2, .int 0), (0, .ref h0), (1, .int sI)])) => ?_)
  have e9 : fT vF 87 (vF 87) = vF := by funext q9; by_cases h9_87 : q9 = 87; (subst h9_87; exact (fT_eq _ _ _).trans (Eq.trans (by first | with_reducible rfl | with_reducible assumption | (symm; with_reducible assumption) | rfl | assumption | (symm; assumption) | (subst_vars; rfl)) (Eq.refl _).symm)); exact (fT_ne _ _ h9_87).trans (Eq.refl _).symm
  have hP := wr_PF e9 hP
  have hD := wr_DF e9 hD
  clear e9
  have hl : lv_has _ _ ([(0, .ref h0), (1, .int sI), (2, .int (nI 0))]) := lv_sub hl [1, 2, 0] rfl
  refine (fun (loop : ∀ (n9 : Nat) (v1 : Nat) (tk0 : Nat → Int32) (H : Heap) (locs : List Loc) (ls : Array Slot), (v1 ≤ 16) → (∀ x, x < v1 → tk0 x = -1) →  (16 < v1 + n9) → va_P (dC, dI) vwCl (WR a k h0 vi vj (fT vF 87 tk0) vG) H → va_D A (WR a k h0 vi vj (fT vF 87 tk0) vG) → va_S A s.heap H locs → lv_has ls 3 [(0, .ref h0), (1, .int sI), (2, .int (nI v1))] → W p l e _ s m _ below meth c H locs 0 0 _ (F0 m 2 ls [])) => loop (17) 0 (vF 87) _ _ _ (by omega) (fun x hx9 => absurd hx9 (by omega)) (by omega) hP hD hS hl) ?_
  intro n9
  induction n9 with
  | zero => intro v1 tk0 H locs ls hv1 hz1 hf9; exact False.elim (by omega)
  | succ n9 ih2 =>
    intro v1 tk0 H locs ls hv1 hz1 hf2 hP hD hS hl
    refine lv_iload_n hx hb dX12_canDiffer_2 rfl (lv_at hl 2 rfl) ?_
    refine lv_bipush (v := 16) hx hb dX12_canDiffer_3 (by decide) ?_
    refine lv_icmp_ge (tgt := 21) hx hb dX12_canDiffer_5 (by decide) (fun c_5 => ?_) (fun c_5 => ?_)
    · have t_5 : ((v1 : Nat) : Int) ≥ 16 := toI_ge c_5 (nI_toInt (by omega)) (by decide)
      refine lv_iconst (v := 0) hx hb dX12_canDiffer_21 (by decide) ?_
      refine lv_istore_n hx hb dX12_canDiffer_22 rfl hl (by decide) rfl (fun ls (hl : lv_has ls _ ([(2, .int 0), (0, .ref h0), (1, .int sI)])) => ?_)
      have e9 : fT (fT (fT vF 87 tk0) 88 (vF 88)) 89 (vF 89) = fT vF 87 tk0 := Eq.trans (mv_1 rfl) (Eq.trans (id_2 rfl) (id_1 rfl))
      have hP := wr_PF e9 hP
      have hD := wr_DF e9 hD
      clear e9
      have hl : lv_has _ _ ([(0, .ref h0), (1, .int sI), (2, .int (nI 0))]) := lv_sub hl [1, 2, 0] rfl
      refine (fun (loop : ∀ (n9 : Nat) (i5 : Nat) (tk : Nat → Int32) (x3_F88 : Nat → Int32) (x3_F89 : Nat → Int32) (H : Heap) (locs : List Loc) (ls : Array Slot), (i5 ≤ hn) → (TkB tk i5) →  (hn < i5 + n9) → va_P (dC, dI) vwCl (WR a k h0 vi vj (fT (fT (fT vF 87 tk) 88 x3_F88) 89 x3_F89) vG) H → va_D A (WR a k h0 vi vj (fT (fT (fT vF 87 tk) 88 x3_F88) 89 x3_F89) vG) → va_S A s.heap H locs → lv_has ls 3 [(0, .ref h0), (1, .int sI), (2, .int (nI i5))] → W p l e _ s m _ below meth c H locs 0 0 _ (F0 m 23 ls [])) => loop (hn + 1) 0 tk0 (vF 88) (vF 89) _ _ _ (by omega) (⟨fun x hx9 => Or.inl (hz1 x (by omega)), fun x y h1 h2 h3 h4 => absurd (hz1 x (by omega)) h4⟩) (by omega) hP hD hS hl) ?_
      intro n9
      induction n9 with
      | zero => intro i5 tk x3_F88 x3_F89 H locs ls hi5 hTk hf9; exact False.elim (by omega)
      | succ n9 ih23_1 =>
        intro i5 tk x3_F88 x3_F89 H locs ls hi5 hTk hf23_1 hP hD hS hl
        refine lv_iload_n hx hb dX12_canDiffer_23 rfl (lv_at hl 2 rfl) ?_
        refine lv_aload_n hx hb dX12_canDiffer_24 rfl (lv_at hl 0 rfl) ?_
        refine va_get (D := (dC, dI)) (ci := 12) (v := .int (vi 128)) (C := RX12) (T := TX12) (N := 163) (fs := fM (vS a vi vj)) hx hb hts iwsRX12_canDiffer_in12 hown hK hP 0 rfl rfl 128 (by decide) (hts (.fieldLink RX12 978 "OptimaWorksModel" "holders" "I") (by decide +kernel)) (fun _ h9 => h9) rfl dX12_canDiffer_25 ?_
        refine lv_topi (fun y1 hy1 => ?_)
        obtain rfl : (nI hn) = y1 := (hy1.trans (hhn)).symm
        refine lv_icmp_ge (tgt := 56) hx hb dX12_canDiffer_28 (by decide) (fun c_28 => ?_) (fun c_28 => ?_)
        · have t_28 : ((i5 : Nat) : Int) ≥ ((hn : Nat) : Int) := toI_ge c_28 (nI_toInt (by omega)) (nI_toInt (by omega))
          refine lv_iconst (v := 1) hx hb dX12_canDiffer_56 (by decide) ?_
          refine W.widen (k := 0) (n := 0) (by decide +kernel) (by decide +kernel) ?_
          exact W.zret (v := 1) hx hb hr rfl (fun t9_ ht hW => ⟨⟨1, (tk, x3_F88, x3_F89), rfl, by (try dsimp only); exact Or.inl rfl, by rw [ht]; exact hP, hD⟩, hS.F ht⟩) hS.2.2 dX12_canDiffer_57
        · have t_28 : ¬ ((i5 : Nat) : Int) ≥ ((hn : Nat) : Int) := toI_nge c_28 (nI_toInt (by omega)) (nI_toInt (by omega))
          refine lv_iload_n hx hb dX12_canDiffer_31 rfl (lv_at hl 1 rfl) ?_
          refine lv_iload_n hx hb dX12_canDiffer_32 rfl (lv_at hl 2 rfl) ?_
          refine lv_ishr hx hb dX12_canDiffer_33 ?_
          refine lv_iconst (v := 1) hx hb dX12_canDiffer_34 (by decide) ?_
          refine lv_iand hx hb dX12_canDiffer_35 ?_
          refine lv_iconst (v := 1) hx hb dX12_canDiffer_36 (by decide) ?_
          refine lv_icmp_ne (tgt := 50) hx hb dX12_canDiffer_37 (by decide) (fun c_37 => ?_) (fun c_37 => ?_)
          · have t_37 : (((sI >>> ((nI i5) &&& 31)) &&& 1)).toInt ≠ 1 := toI_ne c_37 rfl (by decide)
            refine lv_iinc (v := (nI (i5 + 1))) hx hb dX12_canDiffer_50 hl (k := 2) rfl (nI_add i5 1) (by decide) rfl (fun ls (hl : lv_has ls _ ([(2, .int (nI (i5 + 1))), (0, .ref h0), (1, .int sI)])) => ?_)
            refine lv_goto (tgt := 23) hx hb dX12_canDiffer_53 (by decide) ?_
            have hl : lv_has _ _ ([(0, .ref h0), (1, .int sI), (2, .int (nI (i5 + 1)))]) := lv_sub hl [1, 2, 0] rfl
            exact ih23_1 (i5 + 1) tk x3_F88 x3_F89 _ _ _ (by omega) (TkB.up hTk) (by omega) hP hD hS hl
          · have t_37 : (((sI >>> ((nI i5) &&& 31)) &&& 1)).toInt = 1 := toI_nne c_37 rfl (by decide)
            refine lv_aload_n hx hb dX12_canDiffer_40 rfl (lv_at hl 0 rfl) ?_
            refine lv_iload_n hx hb dX12_canDiffer_41 rfl (lv_at hl 2 rfl) ?_
            have hFc := allFree hD hS hA
            refine va_calli (va_runV (As := [.int (nI i5)]) (rest := []) ⟨hx, hb, hml, hown, hts⟩ (r_X12_finds l dC dI a k h0 vi vj (fT (fT (fT vF 87 tk) 88 x3_F88) 89 x3_F89) vG i5 (by first | with_reducible assumption | decide | omega | rfl | assumption) (hTk) H.size) (cwV 1 hts gwsRX12_canDiffer_0 rfl rfl rfl hd_yX12_finds_RX12 (by decide +kernel)) (fz_pre (va_recv hK hP (ci := 12) (q0 := 0) rfl rfl) hP hK hD) rfl rfl hl.1 rfl (lv_room (Nat.le_of_ble_eq_true rfl)) dX12_canDiffer_42 (by decide +kernel)) hS (fun q _ h => hFc q h) hFc (fun r42 u t9_ H locs ht hvm hw9 hB9 hz1 hk1 hS => ?_)
            revert u hw9 hB9
            refine fz_p3 ?_
            intro g8742 g8842 g8942 hw9 hB9
            try dsimp only at hw9 hB9
            have e9F : fT (fT (fT vF 87 g8742) 88 g8842) 89 g8942 = fT (fT (fT (fT (fT (fT vF 87 tk) 88 x3_F88) 89 x3_F89) 88 g8842) 89 g8942) 87 g8742 := ((congrArg (fun g9 => fT (fT g9 89 g8942) 87 g8742) ((fT_sw _ _ _ (Nat.ne_of_beq_eq_false rfl)).trans (congrArg (fun g9 => fT g9 89 x3_F89) (fT_sm _ _ _ _)))).trans ((congrArg (fun g9 => fT g9 87 g8742) (fT_sm _ _ _ _)).trans ((fT_sw _ _ _ (Nat.ne_of_beq_eq_false rfl)).trans (congrArg (fun g9 => fT g9 89 g8942) ((fT_sw _ _ _ (Nat.ne_of_beq_eq_false rfl)).trans (congrArg (fun g9 => fT g9 88 g8842) (fT_sm _ _ _ _))))))).symm
            have hP := wr_PF e9F (fz_P ht hB9.1)
            have hD := wr_DF e9F (hB9.2.weaken (fun _ q _ h => hFc q.1 h))
            clear e9F
            rcases hw9 with ⟨rfl, f42_0⟩ | rfl
            · refine lv_if_ne (tgt := 50) hx hb dX12_canDiffer_45 (by decide) (fun _ => ?_) (fun c9 => absurd c9 (by decide))
              refine lv_iinc (v := (nI (i5 + 1))) hx hb dX12_canDiffer_50 hl (k := 2) rfl (nI_add i5 1) (by decide) rfl (fun ls (hl : lv_has ls _ ([(2, .int (nI (i5 + 1))), (0, .ref h0), (1, .int sI)])) => ?_)
              refine lv_goto (tgt := 23) hx hb dX12_canDiffer_53 (by decide) ?_
              have hl : lv_has _ _ ([(0, .ref h0), (1, .int sI), (2, .int (nI (i5 + 1)))]) := lv_sub hl [1, 2, 0] rfl
              exact ih23_1 (i5 + 1) g8742 g8842 g8942 _ _ _ (by omega) (f42_0) (by omega) hP hD hS hl
            · refine lv_if_ne (tgt := 50) hx hb dX12_canDiffer_45 (by decide) (fun c9 => absurd c9 (by decide)) (fun _ => ?_)
              refine lv_iconst (v := 0) hx hb dX12_canDiffer_48 (by decide) ?_
              refine W.widen (k := 0) (n := 0) (by decide +kernel) (by decide +kernel) ?_
              exact W.zret (v := 0) hx hb hr rfl (fun t9_ ht hW => ⟨⟨0, (g8742, g8842, g8942), rfl, by (try dsimp only); exact Or.inr rfl, by rw [ht]; exact hP, hD⟩, hS.F ht⟩) hS.2.2 dX12_canDiffer_49
    · have t_5 : ¬ ((v1 : Nat) : Int) ≥ 16 := toI_nge c_5 (nI_toInt (by omega)) (by decide)
      refine lv_aload_n hx hb dX12_canDiffer_8 rfl (lv_at hl 0 rfl) ?_
      refine va_get (D := (dC, dI)) (ci := 12) (v := .ref (a 87)) (C := RX12) (T := TX12) (N := 163) (fs := fM (vS a vi vj)) hx hb hts iwsRX12_canDiffer_in12 hown hK hP 0 rfl rfl 140 (by decide) (hts (.fieldLink RX12 284 "OptimaWorksModel" "taker" "[I") (by decide +kernel)) (fun _ h9 => h9) rfl dX12_canDiffer_9 ?_
      refine lv_iload_n hx hb dX12_canDiffer_12 rfl (lv_at hl 2 rfl) ?_
      refine lv_iconst (v := (-1)) hx hb dX12_canDiffer_13 (by decide) ?_
      refine va_iast (cA := k 87) (n := 16) (f := tk0) hx hb hK hP hD hS 88 87 (WR_get 87 (by decide)) (TR_get 87 (by decide)) (vp_in_nI (show v1 < 16 by omega) (by omega)) dX12_canDiffer_14 (fun H locs hP hD hS => ?_)
      have e9 : fT vF 87 (upd tk0 ((nI v1)).toNatClampNeg (-1)) = fT (fT vF 87 tk0) 87 (upd tk0 ((nI v1)).toNatClampNeg (-1)) := (fT_sm _ _ _ _).symm
      have hP := wr_PF e9 (fz_w (WR_F 87 (by decide) _ rfl) hP)
      have hD := wr_DF e9 (fz_wD (WR_F 87 (by decide) _ rfl) hD)
      clear e9
      refine lv_iinc (v := (nI (v1 + 1))) hx hb dX12_canDiffer_15 hl (k := 2) rfl (nI_add v1 1) (by decide) rfl (fun ls (hl : lv_has ls _ ([(2, .int (nI (v1 + 1))), (0, .ref h0), (1, .int sI)])) => ?_)
      refine lv_goto (tgt := 2) hx hb dX12_canDiffer_18 (by decide) ?_
      have hl : lv_has _ _ ([(0, .ref h0), (1, .int sI), (2, .int (nI (v1 + 1)))]) := lv_sub hl [1, 2, 0] rfl
      exact ih2 (v1 + 1) (upd tk0 ((nI v1)).toNatClampNeg (-1)) _ _ _ (by omega) (fun x hx9 => by rw [upd_at (by omega)]; by_cases e9 : x = v1; (rw [if_pos e9]); (rw [if_neg e9]; exact hz1 x (by omega))) (by omega) hP hD hS hl
theorem dX12_canOrder_0 : decode cX12_canOrder 0 = .ok (.iload_n 1, 1) := dk_27 (by decide +kernel)
theorem dX12_canOrder_1 : decode cX12_canOrder 1 = .ok (.iload_n 3, 1) := dk_29 (by decide +kernel)
theorem dX12_canOrder_2 : decode cX12_canOrder 2 = .ok (.if_icmp .ne 13, 3) := dk_160 (by decide +kernel)
theorem dX12_canOrder_5 : decode cX12_canOrder 5 = .ok (.iload_n 2, 1) := dk_28 (by decide +kernel)
theorem dX12_canOrder_6 : decode cX12_canOrder 6 = .ok (.ifCond .gt 7, 3) := dk_157 (by decide +kernel)
theorem dX12_canOrder_9 : decode cX12_canOrder 9 = .ok (.iconst 1, 1) := dk_4 (by decide +kernel)
theorem dX12_canOrder_10 : decode cX12_canOrder 10 = .ok (.goto 4, 3) := dk_167 (by decide +kernel)
theorem dX12_canOrder_13 : decode cX12_canOrder 13 = .ok (.iconst 0, 1) := dk_3 (by decide +kernel)
theorem dX12_canOrder_14 : decode cX12_canOrder 14 = .ok (.ireturn, 1) := dk_172 (by decide +kernel)
theorem dX12_canOrder_15 : decode cX12_canOrder 15 = .ok (.iconst 0, 1) := dk_3 (by decide +kernel)
theorem dX12_canOrder_16 : decode cX12_canOrder 16 = .ok (.istore 4, 2) := dk_54 (by decide +kernel)
theorem dX12_canOrder_18 : decode cX12_canOrder 18 = .ok (.iload 4, 2) := dk_21 (by decide +kernel)
theorem dX12_canOrder_20 : decode cX12_canOrder 20 = .ok (.bipush 16, 2) := dk_16 (by decide +kernel)
theorem dX12_canOrder_22 : decode cX12_canOrder 22 = .ok (.if_icmp .ge 66, 3) := dk_162 (by decide +kernel)
theorem dX12_canOrder_25 : decode cX12_canOrder 25 = .ok (.iconst 0, 1) := dk_3 (by decide +kernel)
theorem dX12_canOrder_26 : decode cX12_canOrder 26 = .ok (.istore 5, 2) := dk_54 (by decide +kernel)
theorem dX12_canOrder_28 : decode cX12_canOrder 28 = .ok (.iload 5, 2) := dk_21 (by decide +kernel)
theorem dX12_canOrder_30 : decode cX12_canOrder 30 = .ok (.bipush 16, 2) := dk_16 (by decide +kernel)
theorem dX12_canOrder_32 : decode cX12_canOrder 32 = .ok (.if_icmp .ge 50, 3) := dk_162 (by decide +kernel)
theorem dX12_canOrder_35 : decode cX12_canOrder 35 = .ok (.aload_n 0, 1) := dk_42 (by decide +kernel)
theorem dX12_canOrder_36 : decode cX12_canOrder 36 = .ok (.getfield 281, 3) := dk_180 (by decide +kernel)
theorem dX12_canOrder_39 : decode cX12_canOrder 39 = .ok (.iload_n 1, 1) := dk_27 (by decide +kernel)
theorem dX12_canOrder_40 : decode cX12_canOrder 40 = .ok (.iaload, 1) := dk_46 (by decide +kernel)
theorem dX12_canOrder_41 : decode cX12_canOrder 41 = .ok (.iload 4, 2) := dk_21 (by decide +kernel)
theorem dX12_canOrder_43 : decode cX12_canOrder 43 = .ok (.ishr, 1) := dk_122 (by decide +kernel)
theorem dX12_canOrder_44 : decode cX12_canOrder 44 = .ok (.iconst 1, 1) := dk_4 (by decide +kernel)
theorem dX12_canOrder_45 : decode cX12_canOrder 45 = .ok (.iand, 1) := dk_126 (by decide +kernel)
theorem dX12_canOrder_46 : decode cX12_canOrder 46 = .ok (.iconst 1, 1) := dk_4 (by decide +kernel)
theorem dX12_canOrder_47 : decode cX12_canOrder 47 = .ok (.if_icmp .ne 29, 3) := dk_160 (by decide +kernel)
theorem dX12_canOrder_50 : decode cX12_canOrder 50 = .ok (.aload_n 0, 1) := dk_42 (by decide +kernel)
theorem dX12_canOrder_51 : decode cX12_canOrder 51 = .ok (.getfield 281, 3) := dk_180 (by decide +kernel)
theorem dX12_canOrder_54 : decode cX12_canOrder 54 = .ok (.iload_n 3, 1) := dk_29 (by decide +kernel)
theorem dX12_canOrder_55 : decode cX12_canOrder 55 = .ok (.iaload, 1) := dk_46 (by decide +kernel)
theorem dX12_canOrder_56 : decode cX12_canOrder 56 = .ok (.iload 5, 2) := dk_21 (by decide +kernel)
theorem dX12_canOrder_58 : decode cX12_canOrder 58 = .ok (.ishr, 1) := dk_122 (by decide +kernel)
theorem dX12_canOrder_59 : decode cX12_canOrder 59 = .ok (.iconst 1, 1) := dk_4 (by decide +kernel)
theorem dX12_canOrder_60 : decode cX12_canOrder 60 = .ok (.iand, 1) := dk_126 (by decide +kernel)
theorem dX12_canOrder_61 : decode cX12_canOrder 61 = .ok (.iconst 1, 1) := dk_4 (by decide +kernel)
theorem dX12_canOrder_62 : decode cX12_canOrder 62 = .ok (.if_icmp .ne 14, 3) := dk_160 (by decide +kernel)
theorem dX12_canOrder_65 : decode cX12_canOrder 65 = .ok (.iload 4, 2) := dk_21 (by decide +kernel)
theorem dX12_canOrder_67 : decode cX12_canOrder 67 = .ok (.iload_n 2, 1) := dk_28 (by decide +kernel)
theorem dX12_canOrder_68 : decode cX12_canOrder 68 = .ok (.iadd, 1) := dk_96 (by decide +kernel)
theorem dX12_canOrder_69 : decode cX12_canOrder 69 = .ok (.iload 5, 2) := dk_21 (by decide +kernel)
theorem dX12_canOrder_71 : decode cX12_canOrder 71 = .ok (.if_icmp .gt 5, 3) := dk_163 (by decide +kernel)
theorem dX12_canOrder_74 : decode cX12_canOrder 74 = .ok (.iconst 1, 1) := dk_4 (by decide +kernel)
theorem dX12_canOrder_75 : decode cX12_canOrder 75 = .ok (.ireturn, 1) := dk_172 (by decide +kernel)
theorem dX12_canOrder_76 : decode cX12_canOrder 76 = .ok (.iinc 5 1, 3) := dk_132 (by decide +kernel)
theorem dX12_canOrder_79 : decode cX12_canOrder 79 = .ok (.goto (-51), 3) := dk_167 (by decide +kernel)
theorem dX12_canOrder_82 : decode cX12_canOrder 82 = .ok (.iinc 4 1, 3) := dk_132 (by decide +kernel)
theorem dX12_canOrder_85 : decode cX12_canOrder 85 = .ok (.goto (-67), 3) := dk_167 (by decide +kernel)
theorem dX12_canOrder_88 : decode cX12_canOrder 88 = .ok (.iconst 0, 1) := dk_3 (by decide +kernel)
theorem dX12_canOrder_89 : decode cX12_canOrder 89 = .ok (.ireturn, 1) := dk_172 (by decide +kernel)
def wsRX12_canOrder : List Cond := .code yX12_canOrder cX12_canOrder 6 (some .boolean) :: ([.fieldLink RX12 281 "OptimaWorksModel" "with" "[I"] ++ wsX120)
theorem iwsRX12_canOrder_in12 : ∀ w ∈ wsX120, w ∈ wsRX12_canOrder := fun _ h => List.mem_cons_of_mem _ (List.mem_append_right _ h)
theorem gdwsRX12_canOrder : wsRX12_canOrder.all goodWord = true := gdC rfl (gdA (by decide +kernel : ([.fieldLink RX12 281 "OptimaWorksModel" "with" "[I"] : List Cond).all goodWord = true) gdwsX120)
theorem hm_r_X12_canOrder_0 : (.fieldLink RX12 281 "OptimaWorksModel" "with" "[I" : Cond) ∈ wsRX12_canOrder := by decide +kernel
set_option maxHeartbeats 4000000 in
set_option maxRecDepth 100000 in
/-- canOrder(i, k, j) -/
theorem r_X12_canOrder (l : Launch) (dC : Nat → ClassId) (dI : Nat → Nat → Nat) (a : Nat → Nat) (k : Nat → ClassId) (h0 : Nat) (vi : Nat → Int32) (vj : Nat → Int64) (vF : Nat → Nat → Int32) (vG : Nat → Nat → Int64) (iN : Nat) (kI : Int32) (jN : Nat) (hiN : iN < 10) (hjN : jN < 10) (sz : Nat) : Met l yX12_canOrder wsRX12_canOrder ({ frames := 0, cells := 0, slots := 0, locals := 0 }) (va_Pc [.ref h0, .int (nI iN), .int kI, .int (nI jN)] (fun U => U.heap.size = sz ∧ va_P (dC, dI) vwCl (WR a k h0 vi vj vF vG) U.heap ∧ va_K (dC, dI) vwCl (tX12 k) U ∧ va_D (fun _ => True) (WR a k h0 vi vj vF vG))) (va_Qi (fun (r : Int32) (u : Unit) => (r = 1) ∨ (r = 0)) (fun (u : Unit) t => va_P (dC, dI) vwCl (WR a k h0 vi vj vF vG) t.heap ∧ va_D (va_A (WR a k h0 vi vj vF vG) sz) (WR a k h0 vi vj vF vG)) (va_A (WR a k h0 vi vj vF vG) sz)) 0 0 (va_A (WR a k h0 vi vj vF vG) sz) := by
  refine Met.ofW (cc := cX12_canOrder) (maxL := 6) (ret := (some .boolean)) (by decide) rfl ?_
  intro p e s m args below meth c s₁ B hml hv
  obtain ⟨rfl, hsz, hP, hK, hD0⟩ := hv
  have hx := B.exec
  have hb := B.bytes
  have hr := B.returns
  have hts := atoms_spec (ws := wsRX12_canOrder) B.pre
  have hown : s.vm.findClass RX12 = some m.cls := findClass_of_methodNamed B.named
  have hlocks := B.notSynchronized
  subst hsz
  have hD := hD0.self (sz := s.heap.size)
  generalize hAe : va_A (WR a k h0 vi vj vF vG) s.heap.size = A at hD ⊢
  have hA : ∀ q : Nat, s.heap.size ≤ q → A q := fun q h => by rw [← hAe]; exact Or.inr h
  have hS : va_S A s.heap s.heap [] := va_S.rf
  have hl := lv_entry ([.ref h0, .int (nI iN), .int kI, .int (nI jN)]) (n := 6) (Nat.le_of_ble_eq_true rfl)
  rw [lg_entry_eq]
  generalize (lg_sl ([.ref h0, .int (nI iN), .int kI, .int (nI jN)]) ++ List.replicate (6 - (lg_sl ([.ref h0, .int (nI iN), .int kI, .int (nI jN)])).length) Slot.unset).toArray = ls at hl ⊢
  have hl : lv_has ls 6 [(0, .ref h0), (1, .int (nI iN)), (2, .int kI), (3, .int (nI jN))] := hl
  refine lv_iload_n hx hb dX12_canOrder_0 rfl (lv_at hl 1 rfl) ?_
  refine lv_iload_n hx hb dX12_canOrder_1 rfl (lv_at hl 3 rfl) ?_
  refine lv_icmp_ne (tgt := 15) hx hb dX12_canOrder_2 (by decide) (fun c_2 => ?_) (fun c_2 => ?_)
  · have t_2 : ((iN : Nat) : Int) ≠ ((jN : Nat) : Int) := toI_ne c_2 (nI_toInt (by omega)) (nI_toInt (by omega))
    refine lv_iconst (v := 0) hx hb dX12_canOrder_15 (by decide) ?_
    refine lv_istore hx hb dX12_canOrder_16 hl (by decide) rfl (fun ls (hl : lv_has ls _ ([(4, .int 0), (0, .ref h0), (1, .int (nI iN)), (2, .int kI), (3, .int (nI jN))])) => ?_)
    have hl : lv_has _ _ ([(0, .ref h0), (1, .int (nI iN)), (2, .int kI), (3, .int (nI jN)), (4, .int (nI 0))]) := lv_sub hl [1, 2, 3, 4, 0] rfl
    refine (fun (loop : ∀ (n9 : Nat) (x5 : Nat) (H : Heap) (locs : List Loc) (ls : Array Slot), (x5 ≤ 16) →  (16 < x5 + n9) → va_P (dC, dI) vwCl (WR a k h0 vi vj vF vG) H → va_D A (WR a k h0 vi vj vF vG) → va_S A s.heap H locs → lv_has ls 6 [(0, .ref h0), (1, .int (nI iN)), (2, .int kI), (3, .int (nI jN)), (4, .int (nI x5))] → W p l e _ s m _ below meth c H locs 0 0 _ (F0 m 18 ls [])) => loop (17) 0 _ _ _ (by omega) (by omega) hP hD hS hl) ?_
    intro n9
    induction n9 with
    | zero => intro x5 H locs ls hx5 hf9; exact False.elim (by omega)
    | succ n9 ih18 =>
      intro x5 H locs ls hx5 hf18 hP hD hS hl
      refine lv_iload hx hb dX12_canOrder_18 (lv_at hl 4 rfl) ?_
      refine lv_bipush (v := 16) hx hb dX12_canOrder_20 (by decide) ?_
      refine lv_icmp_ge (tgt := 88) hx hb dX12_canOrder_22 (by decide) (fun c_22 => ?_) (fun c_22 => ?_)
      · have t_22 : ((x5 : Nat) : Int) ≥ 16 := toI_ge c_22 (nI_toInt (by omega)) (by decide)
        refine lv_iconst (v := 0) hx hb dX12_canOrder_88 (by decide) ?_
        refine W.widen (k := 0) (n := 0) (by decide +kernel) (by decide +kernel) ?_
        exact W.zret (v := 0) hx hb hr rfl (fun t9_ ht hW => ⟨⟨0, (), rfl, by (try dsimp only); exact Or.inr rfl, by rw [ht]; exact hP, hD⟩, hS.F ht⟩) hS.2.2 dX12_canOrder_89
      · have t_22 : ¬ ((x5 : Nat) : Int) ≥ 16 := toI_nge c_22 (nI_toInt (by omega)) (by decide)
        refine lv_iconst (v := 0) hx hb dX12_canOrder_25 (by decide) ?_
        refine lv_istore hx hb dX12_canOrder_26 hl (by decide) rfl (fun ls (hl : lv_has ls _ ([(5, .int 0), (0, .ref h0), (1, .int (nI iN)), (2, .int kI), (3, .int (nI jN)), (4, .int (nI x5))])) => ?_)
        have hl : lv_has _ _ ([(0, .ref h0), (1, .int (nI iN)), (2, .int kI), (3, .int (nI jN)), (4, .int (nI x5)), (5, .int (nI 0))]) := lv_sub hl [1, 2, 3, 4, 5, 0] rfl
        refine (fun (loop : ∀ (n9 : Nat) (y5 : Nat) (H : Heap) (locs : List Loc) (ls : Array Slot), (y5 ≤ 16) →  (16 < y5 + n9) → va_P (dC, dI) vwCl (WR a k h0 vi vj vF vG) H → va_D A (WR a k h0 vi vj vF vG) → va_S A s.heap H locs → lv_has ls 6 [(0, .ref h0), (1, .int (nI iN)), (2, .int kI), (3, .int (nI jN)), (4, .int (nI x5)), (5, .int (nI y5))] → W p l e _ s m _ below meth c H locs 0 0 _ (F0 m 28 ls [])) => loop (17) 0 _ _ _ (by omega) (by omega) hP hD hS hl) ?_
        intro n9
        induction n9 with
        | zero => intro y5 H locs ls hy5 hf9; exact False.elim (by omega)
        | succ n9 ih28_1 =>
          intro y5 H locs ls hy5 hf28_1 hP hD hS hl
          refine lv_iload hx hb dX12_canOrder_28 (lv_at hl 5 rfl) ?_
          refine lv_bipush (v := 16) hx hb dX12_canOrder_30 (by decide) ?_
          refine lv_icmp_ge (tgt := 82) hx hb dX12_canOrder_32 (by decide) (fun c_32 => ?_) (fun c_32 => ?_)
          · have t_32 : ((y5 : Nat) : Int) ≥ 16 := toI_ge c_32 (nI_toInt (by omega)) (by decide)
            refine lv_iinc (v := (nI (x5 + 1))) hx hb dX12_canOrder_82 hl (k := 4) rfl (nI_add x5 1) (by decide) rfl (fun ls (hl : lv_has ls _ ([(4, .int (nI (x5 + 1))), (0, .ref h0), (1, .int (nI iN)), (2, .int kI), (3, .int (nI jN)), (5, .int (nI y5))])) => ?_)
            refine lv_goto (tgt := 18) hx hb dX12_canOrder_85 (by decide) ?_
            have hl : lv_has _ _ ([(0, .ref h0), (1, .int (nI iN)), (2, .int kI), (3, .int (nI jN)), (4, .int (nI (x5 + 1)))]) := lv_sub hl [1, 2, 3, 4, 0] rfl
            exact ih18 (x5 + 1) _ _ _ (by omega) (by omega) hP hD hS hl
          · have t_32 : ¬ ((y5 : Nat) : Int) ≥ 16 := toI_nge c_32 (nI_toInt (by omega)) (by decide)
            refine lv_aload_n hx hb dX12_canOrder_35 rfl (lv_at hl 0 rfl) ?_
            refine va_get (D := (dC, dI)) (ci := 12) (v := .ref (a 86)) (C := RX12) (T := TX12) (N := 163) (fs := fM (vS a vi vj)) hx hb hts iwsRX12_canOrder_in12 hown hK hP 0 rfl rfl 139 (by decide) (hts _ hm_r_X12_canOrder_0) (fun _ h9 => h9) rfl dX12_canOrder_36 ?_
            refine lv_iload_n hx hb dX12_canOrder_39 rfl (lv_at hl 1 rfl) ?_
            refine va_iald (cA := k 86) (n := 10) (f := (vF 86)) hx hb hK hP 87 86 (WR_get 86 (by decide)) (TR_get 86 (by decide)) (vp_in_nI (show iN < 10 by omega) (by omega)) dX12_canOrder_40 ?_
            refine lv_topi (fun y1 hy1 => ?_)
            obtain rfl : ((vF 86) iN) = y1 := (hy1.trans (by rw [nI_clamp (by omega)])).symm
            refine lv_iload hx hb dX12_canOrder_41 (lv_at hl 4 rfl) ?_
            refine lv_ishr hx hb dX12_canOrder_43 ?_
            refine lv_iconst (v := 1) hx hb dX12_canOrder_44 (by decide) ?_
            refine lv_iand hx hb dX12_canOrder_45 ?_
            refine lv_iconst (v := 1) hx hb dX12_canOrder_46 (by decide) ?_
            refine lv_icmp_ne (tgt := 76) hx hb dX12_canOrder_47 (by decide) (fun c_47 => ?_) (fun c_47 => ?_)
            · have t_47 : (((((vF 86) iN) >>> ((nI x5) &&& 31)) &&& 1)).toInt ≠ 1 := toI_ne c_47 rfl (by decide)
              refine lv_iinc (v := (nI (y5 + 1))) hx hb dX12_canOrder_76 hl (k := 5) rfl (nI_add y5 1) (by decide) rfl (fun ls (hl : lv_has ls _ ([(5, .int (nI (y5 + 1))), (0, .ref h0), (1, .int (nI iN)), (2, .int kI), (3, .int (nI jN)), (4, .int (nI x5))])) => ?_)
              refine lv_goto (tgt := 28) hx hb dX12_canOrder_79 (by decide) ?_
              have hl : lv_has _ _ ([(0, .ref h0), (1, .int (nI iN)), (2, .int kI), (3, .int (nI jN)), (4, .int (nI x5)), (5, .int (nI (y5 + 1)))]) := lv_sub hl [1, 2, 3, 4, 5, 0] rfl
              exact ih28_1 (y5 + 1) _ _ _ (by omega) (by omega) hP hD hS hl
            · have t_47 : (((((vF 86) iN) >>> ((nI x5) &&& 31)) &&& 1)).toInt = 1 := toI_nne c_47 rfl (by decide)
              refine lv_aload_n hx hb dX12_canOrder_50 rfl (lv_at hl 0 rfl) ?_
              refine va_get (D := (dC, dI)) (ci := 12) (v := .ref (a 86)) (C := RX12) (T := TX12) (N := 163) (fs := fM (vS a vi vj)) hx hb hts iwsRX12_canOrder_in12 hown hK hP 0 rfl rfl 139 (by decide) (hts _ hm_r_X12_canOrder_0) (fun _ h9 => h9) rfl dX12_canOrder_51 ?_
              refine lv_iload_n hx hb dX12_canOrder_54 rfl (lv_at hl 3 rfl) ?_
              refine va_iald (cA := k 86) (n := 10) (f := (vF 86)) hx hb hK hP 87 86 (WR_get 86 (by decide)) (TR_get 86 (by decide)) (vp_in_nI (show jN < 10 by omega) (by omega)) dX12_canOrder_55 ?_
              refine lv_topi (fun y2 hy2 => ?_)
              obtain rfl : ((vF 86) jN) = y2 := (hy2.trans (by rw [nI_clamp (by omega)])).symm
              refine lv_iload hx hb dX12_canOrder_56 (lv_at hl 5 rfl) ?_
              refine lv_ishr hx hb dX12_canOrder_58 ?_
              refine lv_iconst (v := 1) hx hb dX12_canOrder_59 (by decide) ?_
              refine lv_iand hx hb dX12_canOrder_60 ?_
              refine lv_iconst (v := 1) hx hb dX12_canOrder_61 (by decide) ?_
              refine lv_icmp_ne (tgt := 76) hx hb dX12_canOrder_62 (by decide) (fun c_62 => ?_) (fun c_62 => ?_)
              · have t_62 : (((((vF 86) jN) >>> ((nI y5) &&& 31)) &&& 1)).toInt ≠ 1 := toI_ne c_62 rfl (by decide)
                refine lv_iinc (v := (nI (y5 + 1))) hx hb dX12_canOrder_76 hl (k := 5) rfl (nI_add y5 1) (by decide) rfl (fun ls (hl : lv_has ls _ ([(5, .int (nI (y5 + 1))), (0, .ref h0), (1, .int (nI iN)), (2, .int kI), (3, .int (nI jN)), (4, .int (nI x5))])) => ?_)
                refine lv_goto (tgt := 28) hx hb dX12_canOrder_79 (by decide) ?_
                have hl : lv_has _ _ ([(0, .ref h0), (1, .int (nI iN)), (2, .int kI), (3, .int (nI jN)), (4, .int (nI x5)), (5, .int (nI (y5 + 1)))]) := lv_sub hl [1, 2, 3, 4, 5, 0] rfl
                exact ih28_1 (y5 + 1) _ _ _ (by omega) (by omega) hP hD hS hl
              · have t_62 : (((((vF 86) jN) >>> ((nI y5) &&& 31)) &&& 1)).toInt = 1 := toI_nne c_62 rfl (by decide)
                refine lv_iload hx hb dX12_canOrder_65 (lv_at hl 4 rfl) ?_
                refine lv_iload_n hx hb dX12_canOrder_67 rfl (lv_at hl 2 rfl) ?_
                refine lv_iadd hx hb dX12_canOrder_68 ?_
                refine lv_iload hx hb dX12_canOrder_69 (lv_at hl 5 rfl) ?_
                refine lv_icmp_gt (tgt := 76) hx hb dX12_canOrder_71 (by decide) (fun c_71 => ?_) (fun c_71 => ?_)
                · have t_71 : (((nI x5) + kI)).toInt > ((y5 : Nat) : Int) := toI_gt c_71 rfl (nI_toInt (by omega))
                  refine lv_iinc (v := (nI (y5 + 1))) hx hb dX12_canOrder_76 hl (k := 5) rfl (nI_add y5 1) (by decide) rfl (fun ls (hl : lv_has ls _ ([(5, .int (nI (y5 + 1))), (0, .ref h0), (1, .int (nI iN)), (2, .int kI), (3, .int (nI jN)), (4, .int (nI x5))])) => ?_)
                  refine lv_goto (tgt := 28) hx hb dX12_canOrder_79 (by decide) ?_
                  have hl : lv_has _ _ ([(0, .ref h0), (1, .int (nI iN)), (2, .int kI), (3, .int (nI jN)), (4, .int (nI x5)), (5, .int (nI (y5 + 1)))]) := lv_sub hl [1, 2, 3, 4, 5, 0] rfl
                  exact ih28_1 (y5 + 1) _ _ _ (by omega) (by omega) hP hD hS hl
                · have t_71 : ¬ (((nI x5) + kI)).toInt > ((y5 : Nat) : Int) := toI_ngt c_71 rfl (nI_toInt (by omega))
                  refine lv_iconst (v := 1) hx hb dX12_canOrder_74 (by decide) ?_
                  refine W.widen (k := 0) (n := 0) (by decide +kernel) (by decide +kernel) ?_
                  exact W.zret (v := 1) hx hb hr rfl (fun t9_ ht hW => ⟨⟨1, (), rfl, by (try dsimp only); exact Or.inl rfl, by rw [ht]; exact hP, hD⟩, hS.F ht⟩) hS.2.2 dX12_canOrder_75
  · have t_2 : ((iN : Nat) : Int) = ((jN : Nat) : Int) := toI_nne c_2 (nI_toInt (by omega)) (nI_toInt (by omega))
    refine lv_iload_n hx hb dX12_canOrder_5 rfl (lv_at hl 2 rfl) ?_
    refine lv_if_gt (tgt := 13) hx hb dX12_canOrder_6 (by decide) (fun c_6 => ?_) (fun c_6 => ?_)
    · have t_6 : (kI).toInt > 0 := toI_gt c_6 rfl (by decide)
      refine lv_iconst (v := 0) hx hb dX12_canOrder_13 (by decide) ?_
      refine W.widen (k := 0) (n := 0) (by decide +kernel) (by decide +kernel) ?_
      exact W.zret (v := 0) hx hb hr rfl (fun t9_ ht hW => ⟨⟨0, (), rfl, by (try dsimp only); exact Or.inr rfl, by rw [ht]; exact hP, hD⟩, hS.F ht⟩) hS.2.2 dX12_canOrder_14
    · have t_6 : ¬ (kI).toInt > 0 := toI_ngt c_6 rfl (by decide)
      refine lv_iconst (v := 1) hx hb dX12_canOrder_9 (by decide) ?_
      refine lv_goto (tgt := 14) hx hb dX12_canOrder_10 (by decide) ?_
      refine W.widen (k := 0) (n := 0) (by decide +kernel) (by decide +kernel) ?_
      exact W.zret (v := 1) hx hb hr rfl (fun t9_ ht hW => ⟨⟨1, (), rfl, by (try dsimp only); exact Or.inl rfl, by rw [ht]; exact hP, hD⟩, hS.F ht⟩) hS.2.2 dX12_canOrder_14
theorem dX12_canSum_0 : decode cX12_canSum 0 = .ok (.lconst 1, 1) := dk_10 (by decide +kernel)
theorem dX12_canSum_1 : decode cX12_canSum 1 = .ok (.lstore 4, 2) := dk_55 (by decide +kernel)
theorem dX12_canSum_3 : decode cX12_canSum 3 = .ok (.lconst 0, 1) := dk_9 (by decide +kernel)
theorem dX12_canSum_4 : decode cX12_canSum 4 = .ok (.lstore 6, 2) := dk_55 (by decide +kernel)
theorem dX12_canSum_6 : decode cX12_canSum 6 = .ok (.lconst 0, 1) := dk_9 (by decide +kernel)
theorem dX12_canSum_7 : decode cX12_canSum 7 = .ok (.lstore 8, 2) := dk_55 (by decide +kernel)
theorem dX12_canSum_9 : decode cX12_canSum 9 = .ok (.iconst 0, 1) := dk_3 (by decide +kernel)
theorem dX12_canSum_10 : decode cX12_canSum 10 = .ok (.istore 10, 2) := dk_54 (by decide +kernel)
theorem dX12_canSum_12 : decode cX12_canSum 12 = .ok (.iload 10, 2) := dk_21 (by decide +kernel)
theorem dX12_canSum_14 : decode cX12_canSum 14 = .ok (.aload_n 0, 1) := dk_42 (by decide +kernel)
theorem dX12_canSum_15 : decode cX12_canSum 15 = .ok (.getfield 978, 3) := dk_180 (by decide +kernel)
theorem dX12_canSum_18 : decode cX12_canSum 18 = .ok (.if_icmp .ge 144, 3) := dk_162 (by decide +kernel)
theorem dX12_canSum_21 : decode cX12_canSum 21 = .ok (.iload_n 1, 1) := dk_27 (by decide +kernel)
theorem dX12_canSum_22 : decode cX12_canSum 22 = .ok (.iload 10, 2) := dk_21 (by decide +kernel)
theorem dX12_canSum_24 : decode cX12_canSum 24 = .ok (.ishr, 1) := dk_122 (by decide +kernel)
theorem dX12_canSum_25 : decode cX12_canSum 25 = .ok (.iconst 1, 1) := dk_4 (by decide +kernel)
theorem dX12_canSum_26 : decode cX12_canSum 26 = .ok (.iand, 1) := dk_126 (by decide +kernel)
theorem dX12_canSum_27 : decode cX12_canSum 27 = .ok (.ifCond .ne 6, 3) := dk_154 (by decide +kernel)
theorem dX12_canSum_30 : decode cX12_canSum 30 = .ok (.goto 126, 3) := dk_167 (by decide +kernel)
theorem dX12_canSum_33 : decode cX12_canSum 33 = .ok (.lconst 0, 1) := dk_9 (by decide +kernel)
theorem dX12_canSum_34 : decode cX12_canSum 34 = .ok (.lstore 11, 2) := dk_55 (by decide +kernel)
theorem dX12_canSum_36 : decode cX12_canSum 36 = .ok (.lconst 0, 1) := dk_9 (by decide +kernel)
theorem dX12_canSum_37 : decode cX12_canSum 37 = .ok (.lstore 13, 2) := dk_55 (by decide +kernel)
theorem dX12_canSum_39 : decode cX12_canSum 39 = .ok (.lconst 0, 1) := dk_9 (by decide +kernel)
theorem dX12_canSum_40 : decode cX12_canSum 40 = .ok (.lstore 15, 2) := dk_55 (by decide +kernel)
theorem dX12_canSum_42 : decode cX12_canSum 42 = .ok (.iconst 0, 1) := dk_3 (by decide +kernel)
theorem dX12_canSum_43 : decode cX12_canSum 43 = .ok (.istore 17, 2) := dk_54 (by decide +kernel)
theorem dX12_canSum_45 : decode cX12_canSum 45 = .ok (.iload 17, 2) := dk_21 (by decide +kernel)
theorem dX12_canSum_47 : decode cX12_canSum 47 = .ok (.bipush 16, 2) := dk_16 (by decide +kernel)
theorem dX12_canSum_49 : decode cX12_canSum 49 = .ok (.if_icmp .ge 95, 3) := dk_162 (by decide +kernel)
theorem dX12_canSum_52 : decode cX12_canSum 52 = .ok (.aload_n 0, 1) := dk_42 (by decide +kernel)
theorem dX12_canSum_53 : decode cX12_canSum 53 = .ok (.getfield 281, 3) := dk_180 (by decide +kernel)
theorem dX12_canSum_56 : decode cX12_canSum 56 = .ok (.iload 10, 2) := dk_21 (by decide +kernel)
theorem dX12_canSum_58 : decode cX12_canSum 58 = .ok (.iaload, 1) := dk_46 (by decide +kernel)
theorem dX12_canSum_59 : decode cX12_canSum 59 = .ok (.iload 17, 2) := dk_21 (by decide +kernel)
theorem dX12_canSum_61 : decode cX12_canSum 61 = .ok (.ishr, 1) := dk_122 (by decide +kernel)
theorem dX12_canSum_62 : decode cX12_canSum 62 = .ok (.iconst 1, 1) := dk_4 (by decide +kernel)
theorem dX12_canSum_63 : decode cX12_canSum 63 = .ok (.iand, 1) := dk_126 (by decide +kernel)
theorem dX12_canSum_64 : decode cX12_canSum 64 = .ok (.ifCond .ne 6, 3) := dk_154 (by decide +kernel)
theorem dX12_canSum_67 : decode cX12_canSum 67 = .ok (.goto 71, 3) := dk_167 (by decide +kernel)
theorem dX12_canSum_70 : decode cX12_canSum 70 = .ok (.lload 11, 2) := dk_22 (by decide +kernel)
theorem dX12_canSum_72 : decode cX12_canSum 72 = .ok (.lload 4, 2) := dk_22 (by decide +kernel)
theorem dX12_canSum_74 : decode cX12_canSum 74 = .ok (.iload 17, 2) := dk_21 (by decide +kernel)
theorem dX12_canSum_76 : decode cX12_canSum 76 = .ok (.lshl, 1) := dk_121 (by decide +kernel)
theorem dX12_canSum_77 : decode cX12_canSum 77 = .ok (.lor, 1) := dk_129 (by decide +kernel)
theorem dX12_canSum_78 : decode cX12_canSum 78 = .ok (.lstore 11, 2) := dk_55 (by decide +kernel)
theorem dX12_canSum_80 : decode cX12_canSum 80 = .ok (.lload 13, 2) := dk_22 (by decide +kernel)
theorem dX12_canSum_82 : decode cX12_canSum 82 = .ok (.iload 17, 2) := dk_21 (by decide +kernel)
theorem dX12_canSum_84 : decode cX12_canSum 84 = .ok (.ifCond .ne 8, 3) := dk_154 (by decide +kernel)
theorem dX12_canSum_87 : decode cX12_canSum 87 = .ok (.lload 6, 2) := dk_22 (by decide +kernel)
theorem dX12_canSum_89 : decode cX12_canSum 89 = .ok (.goto 17, 3) := dk_167 (by decide +kernel)
theorem dX12_canSum_92 : decode cX12_canSum 92 = .ok (.lload 6, 2) := dk_22 (by decide +kernel)
theorem dX12_canSum_94 : decode cX12_canSum 94 = .ok (.iload 17, 2) := dk_21 (by decide +kernel)
theorem dX12_canSum_96 : decode cX12_canSum 96 = .ok (.lshl, 1) := dk_121 (by decide +kernel)
theorem dX12_canSum_97 : decode cX12_canSum 97 = .ok (.lload 4, 2) := dk_22 (by decide +kernel)
theorem dX12_canSum_99 : decode cX12_canSum 99 = .ok (.bipush 64, 2) := dk_16 (by decide +kernel)
theorem dX12_canSum_101 : decode cX12_canSum 101 = .ok (.iload 17, 2) := dk_21 (by decide +kernel)
theorem dX12_canSum_103 : decode cX12_canSum 103 = .ok (.isub, 1) := dk_100 (by decide +kernel)
theorem dX12_canSum_104 : decode cX12_canSum 104 = .ok (.lushr, 1) := dk_125 (by decide +kernel)
theorem dX12_canSum_105 : decode cX12_canSum 105 = .ok (.lor, 1) := dk_129 (by decide +kernel)
theorem dX12_canSum_106 : decode cX12_canSum 106 = .ok (.lor, 1) := dk_129 (by decide +kernel)
theorem dX12_canSum_107 : decode cX12_canSum 107 = .ok (.lstore 13, 2) := dk_55 (by decide +kernel)
theorem dX12_canSum_109 : decode cX12_canSum 109 = .ok (.lload 15, 2) := dk_22 (by decide +kernel)
theorem dX12_canSum_111 : decode cX12_canSum 111 = .ok (.iload 17, 2) := dk_21 (by decide +kernel)
theorem dX12_canSum_113 : decode cX12_canSum 113 = .ok (.ifCond .ne 8, 3) := dk_154 (by decide +kernel)
theorem dX12_canSum_116 : decode cX12_canSum 116 = .ok (.lload 8, 2) := dk_22 (by decide +kernel)
theorem dX12_canSum_118 : decode cX12_canSum 118 = .ok (.goto 17, 3) := dk_167 (by decide +kernel)
theorem dX12_canSum_121 : decode cX12_canSum 121 = .ok (.lload 8, 2) := dk_22 (by decide +kernel)
theorem dX12_canSum_123 : decode cX12_canSum 123 = .ok (.iload 17, 2) := dk_21 (by decide +kernel)
theorem dX12_canSum_125 : decode cX12_canSum 125 = .ok (.lshl, 1) := dk_121 (by decide +kernel)
theorem dX12_canSum_126 : decode cX12_canSum 126 = .ok (.lload 6, 2) := dk_22 (by decide +kernel)
theorem dX12_canSum_128 : decode cX12_canSum 128 = .ok (.bipush 64, 2) := dk_16 (by decide +kernel)
theorem dX12_canSum_130 : decode cX12_canSum 130 = .ok (.iload 17, 2) := dk_21 (by decide +kernel)
theorem dX12_canSum_132 : decode cX12_canSum 132 = .ok (.isub, 1) := dk_100 (by decide +kernel)
theorem dX12_canSum_133 : decode cX12_canSum 133 = .ok (.lushr, 1) := dk_125 (by decide +kernel)
theorem dX12_canSum_134 : decode cX12_canSum 134 = .ok (.lor, 1) := dk_129 (by decide +kernel)
theorem dX12_canSum_135 : decode cX12_canSum 135 = .ok (.lor, 1) := dk_129 (by decide +kernel)
theorem dX12_canSum_136 : decode cX12_canSum 136 = .ok (.lstore 15, 2) := dk_55 (by decide +kernel)
theorem dX12_canSum_138 : decode cX12_canSum 138 = .ok (.iinc 17 1, 3) := dk_132 (by decide +kernel)
theorem dX12_canSum_141 : decode cX12_canSum 141 = .ok (.goto (-96), 3) := dk_167 (by decide +kernel)
theorem dX12_canSum_144 : decode cX12_canSum 144 = .ok (.lload 11, 2) := dk_22 (by decide +kernel)
theorem dX12_canSum_146 : decode cX12_canSum 146 = .ok (.lstore 4, 2) := dk_55 (by decide +kernel)
theorem dX12_canSum_148 : decode cX12_canSum 148 = .ok (.lload 13, 2) := dk_22 (by decide +kernel)
theorem dX12_canSum_150 : decode cX12_canSum 150 = .ok (.lstore 6, 2) := dk_55 (by decide +kernel)
theorem dX12_canSum_152 : decode cX12_canSum 152 = .ok (.lload 15, 2) := dk_22 (by decide +kernel)
theorem dX12_canSum_154 : decode cX12_canSum 154 = .ok (.lstore 8, 2) := dk_55 (by decide +kernel)
theorem dX12_canSum_156 : decode cX12_canSum 156 = .ok (.iinc 10 1, 3) := dk_132 (by decide +kernel)
theorem dX12_canSum_159 : decode cX12_canSum 159 = .ok (.goto (-147), 3) := dk_167 (by decide +kernel)
theorem dX12_canSum_162 : decode cX12_canSum 162 = .ok (.iload_n 2, 1) := dk_28 (by decide +kernel)
theorem dX12_canSum_163 : decode cX12_canSum 163 = .ok (.ifCond .ge 7, 3) := dk_156 (by decide +kernel)
theorem dX12_canSum_166 : decode cX12_canSum 166 = .ok (.iconst 0, 1) := dk_3 (by decide +kernel)
theorem dX12_canSum_167 : decode cX12_canSum 167 = .ok (.goto 4, 3) := dk_167 (by decide +kernel)
theorem dX12_canSum_170 : decode cX12_canSum 170 = .ok (.iload_n 2, 1) := dk_28 (by decide +kernel)
theorem dX12_canSum_171 : decode cX12_canSum 171 = .ok (.istore 10, 2) := dk_54 (by decide +kernel)
theorem dX12_canSum_173 : decode cX12_canSum 173 = .ok (.iload 10, 2) := dk_21 (by decide +kernel)
theorem dX12_canSum_175 : decode cX12_canSum 175 = .ok (.iload_n 3, 1) := dk_29 (by decide +kernel)
theorem dX12_canSum_176 : decode cX12_canSum 176 = .ok (.if_icmp .gt 59, 3) := dk_163 (by decide +kernel)
theorem dX12_canSum_179 : decode cX12_canSum 179 = .ok (.iload 10, 2) := dk_21 (by decide +kernel)
theorem dX12_canSum_181 : decode cX12_canSum 181 = .ok (.sipush 192, 3) := dk_17 (by decide +kernel)
theorem dX12_canSum_184 : decode cX12_canSum 184 = .ok (.if_icmp .ge 51, 3) := dk_162 (by decide +kernel)
theorem dX12_canSum_187 : decode cX12_canSum 187 = .ok (.iload 10, 2) := dk_21 (by decide +kernel)
theorem dX12_canSum_189 : decode cX12_canSum 189 = .ok (.bipush 64, 2) := dk_16 (by decide +kernel)
theorem dX12_canSum_191 : decode cX12_canSum 191 = .ok (.if_icmp .ge 8, 3) := dk_162 (by decide +kernel)
theorem dX12_canSum_194 : decode cX12_canSum 194 = .ok (.lload 4, 2) := dk_22 (by decide +kernel)
theorem dX12_canSum_196 : decode cX12_canSum 196 = .ok (.goto 18, 3) := dk_167 (by decide +kernel)
theorem dX12_canSum_199 : decode cX12_canSum 199 = .ok (.iload 10, 2) := dk_21 (by decide +kernel)
theorem dX12_canSum_201 : decode cX12_canSum 201 = .ok (.sipush 128, 3) := dk_17 (by decide +kernel)
theorem dX12_canSum_204 : decode cX12_canSum 204 = .ok (.if_icmp .ge 8, 3) := dk_162 (by decide +kernel)
theorem dX12_canSum_207 : decode cX12_canSum 207 = .ok (.lload 6, 2) := dk_22 (by decide +kernel)
theorem dX12_canSum_209 : decode cX12_canSum 209 = .ok (.goto 5, 3) := dk_167 (by decide +kernel)
theorem dX12_canSum_212 : decode cX12_canSum 212 = .ok (.lload 8, 2) := dk_22 (by decide +kernel)
theorem dX12_canSum_214 : decode cX12_canSum 214 = .ok (.iload 10, 2) := dk_21 (by decide +kernel)
theorem dX12_canSum_216 : decode cX12_canSum 216 = .ok (.bipush 63, 2) := dk_16 (by decide +kernel)
theorem dX12_canSum_218 : decode cX12_canSum 218 = .ok (.iand, 1) := dk_126 (by decide +kernel)
theorem dX12_canSum_219 : decode cX12_canSum 219 = .ok (.lushr, 1) := dk_125 (by decide +kernel)
theorem dX12_canSum_220 : decode cX12_canSum 220 = .ok (.lconst 1, 1) := dk_10 (by decide +kernel)
theorem dX12_canSum_221 : decode cX12_canSum 221 = .ok (.land, 1) := dk_127 (by decide +kernel)
theorem dX12_canSum_222 : decode cX12_canSum 222 = .ok (.lconst 1, 1) := dk_10 (by decide +kernel)
theorem dX12_canSum_223 : decode cX12_canSum 223 = .ok (.lcmp, 1) := dk_148 (by decide +kernel)
theorem dX12_canSum_224 : decode cX12_canSum 224 = .ok (.ifCond .ne 5, 3) := dk_154 (by decide +kernel)
theorem dX12_canSum_227 : decode cX12_canSum 227 = .ok (.iconst 1, 1) := dk_4 (by decide +kernel)
theorem dX12_canSum_228 : decode cX12_canSum 228 = .ok (.ireturn, 1) := dk_172 (by decide +kernel)
theorem dX12_canSum_229 : decode cX12_canSum 229 = .ok (.iinc 10 1, 3) := dk_132 (by decide +kernel)
theorem dX12_canSum_232 : decode cX12_canSum 232 = .ok (.goto (-59), 3) := dk_167 (by decide +kernel)
theorem dX12_canSum_235 : decode cX12_canSum 235 = .ok (.iconst 0, 1) := dk_3 (by decide +kernel)
theorem dX12_canSum_236 : decode cX12_canSum 236 = .ok (.ireturn, 1) := dk_172 (by decide +kernel)
def wsRX12_canSum : List Cond := .code yX12_canSum cX12_canSum 18 (some .boolean) :: ([.fieldLink RX12 978 "OptimaWorksModel" "holders" "I", .fieldLink RX12 281 "OptimaWorksModel" "with" "[I"] ++ wsX120)
theorem iwsRX12_canSum_in12 : ∀ w ∈ wsX120, w ∈ wsRX12_canSum := fun _ h => List.mem_cons_of_mem _ (List.mem_append_right _ h)
theorem gdwsRX12_canSum : wsRX12_canSum.all goodWord = true := gdC rfl (gdA (by decide +kernel : ([.fieldLink RX12 978 "OptimaWorksModel" "holders" "I", .fieldLink RX12 281 "OptimaWorksModel" "with" "[I"] : List Cond).all goodWord = true) gdwsX120)
set_option maxHeartbeats 4000000 in
set_option maxRecDepth 100000 in
/-- canSum(set, lo, hi) -/
theorem r_X12_canSum (l : Launch) (dC : Nat → ClassId) (dI : Nat → Nat → Nat) (a : Nat → Nat) (k : Nat → ClassId) (h0 : Nat) (vi : Nat → Int32) (vj : Nat → Int64) (vF : Nat → Nat → Int32) (vG : Nat → Nat → Int64) (sI : Int32) (lo : Int32) (hi : Int32) (hn : Nat) (hhn : vi 128 = nI hn) (hhn10 : hn ≤ 10) (sz : Nat) : Met l yX12_canSum wsRX12_canSum ({ frames := 0, cells := 0, slots := 0, locals := 0 }) (va_Pc [.ref h0, .int sI, .int lo, .int hi] (fun U => U.heap.size = sz ∧ va_P (dC, dI) vwCl (WR a k h0 vi vj vF vG) U.heap ∧ va_K (dC, dI) vwCl (tX12 k) U ∧ va_D (fun _ => True) (WR a k h0 vi vj vF vG))) (va_Qi (fun (r : Int32) (u : Unit) => (r = 1) ∨ (r = 0)) (fun (u : Unit) t => va_P (dC, dI) vwCl (WR a k h0 vi vj vF vG) t.heap ∧ va_D (va_A (WR a k h0 vi vj vF vG) sz) (WR a k h0 vi vj vF vG)) (va_A (WR a k h0 vi vj vF vG) sz)) 0 0 (va_A (WR a k h0 vi vj vF vG) sz) := by
  refine Met.ofW (cc := cX12_canSum) (maxL := 18) (ret := (some .boolean)) (by decide) rfl ?_
  intro p e s m args below meth c s₁ B hml hv
  obtain ⟨rfl, hsz, hP, hK, hD0⟩ := hv
  have hx := B.exec
  have hb := B.bytes
  have hr := B.returns
  have hts := atoms_spec (ws := wsRX12_canSum) B.pre
  have hown : s.vm.findClass RX12 = some m.cls := findClass_of_methodNamed B.named
  have hlocks := B.notSynchronized
  subst hsz
  have hD := hD0.self (sz := s.heap.size)
  generalize hAe : va_A (WR a k h0 vi vj vF vG) s.heap.size = A at hD ⊢
  have hA : ∀ q : Nat, s.heap.size ≤ q → A q := fun q h => by rw [← hAe]; exact Or.inr h
  have hS : va_S A s.heap s.heap [] := va_S.rf
  have hl := lv_entry ([.ref h0, .int sI, .int lo, .int hi]) (n := 18) (Nat.le_of_ble_eq_true rfl)
  rw [lg_entry_eq]
  generalize (lg_sl ([.ref h0, .int sI, .int lo, .int hi]) ++ List.replicate (18 - (lg_sl ([.ref h0, .int sI, .int lo, .int hi])).length) Slot.unset).toArray = ls at hl ⊢
  have hl : lv_has ls 18 [(0, .ref h0), (1, .int sI), (2, .int lo), (3, .int hi)] := hl
  refine lv_lconst (v := 1) hx hb dX12_canSum_0 (by decide) ?_
  refine lv_lstore hx hb dX12_canSum_1 hl (by decide) rfl (fun ls (hl : lv_has ls _ ([(4, .long 1), (0, .ref h0), (1, .int sI), (2, .int lo), (3, .int hi)])) => ?_)
  refine lv_lconst (v := 0) hx hb dX12_canSum_3 (by decide) ?_
  refine lv_lstore hx hb dX12_canSum_4 hl (by decide) rfl (fun ls (hl : lv_has ls _ ([(6, .long 0), (4, .long 1), (0, .ref h0), (1, .int sI), (2, .int lo), (3, .int hi)])) => ?_)
  refine lv_lconst (v := 0) hx hb dX12_canSum_6 (by decide) ?_
  refine lv_lstore hx hb dX12_canSum_7 hl (by decide) rfl (fun ls (hl : lv_has ls _ ([(8, .long 0), (6, .long 0), (4, .long 1), (0, .ref h0), (1, .int sI), (2, .int lo), (3, .int hi)])) => ?_)
  refine lv_iconst (v := 0) hx hb dX12_canSum_9 (by decide) ?_
  refine lv_istore hx hb dX12_canSum_10 hl (by decide) rfl (fun ls (hl : lv_has ls _ ([(10, .int 0), (8, .long 0), (6, .long 0), (4, .long 1), (0, .ref h0), (1, .int sI), (2, .int lo), (3, .int hi)])) => ?_)
  have hl : lv_has _ _ ([(0, .ref h0), (1, .int sI), (2, .int lo), (3, .int hi), (4, .long 1), (6, .long 0), (8, .long 0), (10, .int (nI 0))]) := lv_sub hl [4, 5, 6, 7, 3, 2, 1, 0] rfl
  refine (fun (loop : ∀ (n9 : Nat) (i5 : Nat) (a5 : Int64) (b5 : Int64) (c5 : Int64) (H : Heap) (locs : List Loc) (ls : Array Slot), (i5 ≤ hn) →  (hn < i5 + n9) → va_P (dC, dI) vwCl (WR a k h0 vi vj vF vG) H → va_D A (WR a k h0 vi vj vF vG) → va_S A s.heap H locs → lv_has ls 18 [(0, .ref h0), (1, .int sI), (2, .int lo), (3, .int hi), (4, .long a5), (6, .long b5), (8, .long c5), (10, .int (nI i5))] → W p l e _ s m _ below meth c H locs 0 0 _ (F0 m 12 ls [])) => loop (hn + 1) 0 1 0 0 _ _ _ (by omega) (by omega) hP hD hS hl) ?_
  intro n9
  induction n9 with
  | zero => intro i5 a5 b5 c5 H locs ls hi5 hf9; exact False.elim (by omega)
  | succ n9 ih12 =>
    intro i5 a5 b5 c5 H locs ls hi5 hf12 hP hD hS hl
    refine lv_iload hx hb dX12_canSum_12 (lv_at hl 7 rfl) ?_
    refine lv_aload_n hx hb dX12_canSum_14 rfl (lv_at hl 0 rfl) ?_
    refine va_get (D := (dC, dI)) (ci := 12) (v := .int (vi 128)) (C := RX12) (T := TX12) (N := 163) (fs := fM (vS a vi vj)) hx hb hts iwsRX12_canSum_in12 hown hK hP 0 rfl rfl 128 (by decide) (hts (.fieldLink RX12 978 "OptimaWorksModel" "holders" "I") (by decide +kernel)) (fun _ h9 => h9) rfl dX12_canSum_15 ?_
    refine lv_topi (fun y1 hy1 => ?_)
    obtain rfl : (nI hn) = y1 := (hy1.trans (hhn)).symm
    refine lv_icmp_ge (tgt := 162) hx hb dX12_canSum_18 (by decide) (fun c_18 => ?_) (fun c_18 => ?_)
    · have t_18 : ((i5 : Nat) : Int) ≥ ((hn : Nat) : Int) := toI_ge c_18 (nI_toInt (by omega)) (nI_toInt (by omega))
      refine lv_iload_n hx hb dX12_canSum_162 rfl (lv_at hl 2 rfl) ?_
      refine W.cut (pc := 171) (fun H locs ls stk => ∃ (s0 : Int32), (0 ≤ (s0).toInt) ∧  stk = [.int s0] ∧ va_P (dC, dI) vwCl (WR a k h0 vi vj vF vG) H ∧ va_D A (WR a k h0 vi vj vF vG) ∧ va_S A s.heap H locs ∧ lv_has ls 18 [(0, .ref h0), (3, .int hi), (4, .long a5), (6, .long b5), (8, .long c5)]) (fun join1 => ?_) ?_
      · refine lv_if_ge (tgt := 170) hx hb dX12_canSum_163 (by decide) (fun c_163 => ?_) (fun c_163 => ?_)
        · have t_163 : (lo).toInt ≥ 0 := toI_ge c_163 rfl (by decide)
          refine lv_iload_n hx hb dX12_canSum_170 rfl (lv_at hl 2 rfl) ?_
          have hl : lv_has _ _ ([(0, .ref h0), (3, .int hi), (4, .long a5), (6, .long b5), (8, .long c5)]) := lv_sub hl [0, 3, 4, 5, 6] rfl
          exact join1 _ _ _ _ ⟨lo, by omega, rfl, hP, hD, hS, hl⟩
        · have t_163 : ¬ (lo).toInt ≥ 0 := toI_nge c_163 rfl (by decide)
          refine lv_iconst (v := 0) hx hb dX12_canSum_166 (by decide) ?_
          refine lv_goto (tgt := 171) hx hb dX12_canSum_167 (by decide) ?_
          have hl : lv_has _ _ ([(0, .ref h0), (3, .int hi), (4, .long a5), (6, .long b5), (8, .long c5)]) := lv_sub hl [0, 3, 4, 5, 6] rfl
          exact join1 _ _ _ _ ⟨0, by decide, rfl, hP, hD, hS, hl⟩
      · rintro H locs ls stk ⟨s0, hs0, rfl, hP, hD, hS, hl⟩
        refine lv_istore hx hb dX12_canSum_171 hl (by decide) rfl (fun ls (hl : lv_has ls _ ([(10, .int s0), (0, .ref h0), (3, .int hi), (4, .long a5), (6, .long b5), (8, .long c5)])) => ?_)
        have hl : lv_has _ _ ([(0, .ref h0), (3, .int hi), (4, .long a5), (6, .long b5), (8, .long c5), (10, .int s0)]) := lv_sub hl [1, 2, 3, 4, 5, 0] rfl
        refine (fun (loop : ∀ (n9 : Nat) (s9 : Int32) (H : Heap) (locs : List Loc) (ls : Array Slot), (0 ≤ (s9).toInt) →  (0 < n9 ∧ 192 < (s9).toInt + (n9 : Int)) → va_P (dC, dI) vwCl (WR a k h0 vi vj vF vG) H → va_D A (WR a k h0 vi vj vF vG) → va_S A s.heap H locs → lv_has ls 18 [(0, .ref h0), (3, .int hi), (4, .long a5), (6, .long b5), (8, .long c5), (10, .int s9)] → W p l e _ s m _ below meth c H locs 0 0 _ (F0 m 173 ls [])) => loop (193) s0 _ _ _ (hs0) (by omega) hP hD hS hl) ?_
        intro n9
        induction n9 with
        | zero => intro s9 H locs ls hs9 hf9; exact False.elim (by omega)
        | succ n9 ih173_1 =>
          intro s9 H locs ls hs9 hf173_1 hP hD hS hl
          refine lv_iload hx hb dX12_canSum_173 (lv_at hl 5 rfl) ?_
          refine lv_iload_n hx hb dX12_canSum_175 rfl (lv_at hl 1 rfl) ?_
          refine lv_icmp_gt (tgt := 235) hx hb dX12_canSum_176 (by decide) (fun c_176 => ?_) (fun c_176 => ?_)
          · have t_176 : (s9).toInt > (hi).toInt := toI_gt c_176 rfl rfl
            refine lv_iconst (v := 0) hx hb dX12_canSum_235 (by decide) ?_
            refine W.widen (k := 0) (n := 0) (by decide +kernel) (by decide +kernel) ?_
            exact W.zret (v := 0) hx hb hr rfl (fun t9_ ht hW => ⟨⟨0, (), rfl, by (try dsimp only); exact Or.inr rfl, by rw [ht]; exact hP, hD⟩, hS.F ht⟩) hS.2.2 dX12_canSum_236
          · have t_176 : ¬ (s9).toInt > (hi).toInt := toI_ngt c_176 rfl rfl
            refine lv_iload hx hb dX12_canSum_179 (lv_at hl 5 rfl) ?_
            refine lv_sipush (v := 192) hx hb dX12_canSum_181 (by decide) ?_
            refine lv_icmp_ge (tgt := 235) hx hb dX12_canSum_184 (by decide) (fun c_184 => ?_) (fun c_184 => ?_)
            · have t_184 : (s9).toInt ≥ 192 := toI_ge c_184 rfl (by decide)
              refine lv_iconst (v := 0) hx hb dX12_canSum_235 (by decide) ?_
              refine W.widen (k := 0) (n := 0) (by decide +kernel) (by decide +kernel) ?_
              exact W.zret (v := 0) hx hb hr rfl (fun t9_ ht hW => ⟨⟨0, (), rfl, by (try dsimp only); exact Or.inr rfl, by rw [ht]; exact hP, hD⟩, hS.F ht⟩) hS.2.2 dX12_canSum_236
            · have t_184 : ¬ (s9).toInt ≥ 192 := toI_nge c_184 rfl (by decide)
              refine lv_iload hx hb dX12_canSum_187 (lv_at hl 5 rfl) ?_
              refine lv_bipush (v := 64) hx hb dX12_canSum_189 (by decide) ?_
              refine W.cut (pc := 214) (fun H locs ls stk => ∃ (j2_s0 : Int64),  stk = [.long j2_s0] ∧ va_P (dC, dI) vwCl (WR a k h0 vi vj vF vG) H ∧ va_D A (WR a k h0 vi vj vF vG) ∧ va_S A s.heap H locs ∧ lv_has ls 18 [(0, .ref h0), (3, .int hi), (4, .long a5), (6, .long b5), (8, .long c5), (10, .int s9)]) (fun join2 => ?_) ?_
              · refine lv_icmp_ge (tgt := 199) hx hb dX12_canSum_191 (by decide) (fun c_191 => ?_) (fun c_191 => ?_)
                · have t_191 : (s9).toInt ≥ 64 := toI_ge c_191 rfl (by decide)
                  refine lv_iload hx hb dX12_canSum_199 (lv_at hl 5 rfl) ?_
                  refine lv_sipush (v := 128) hx hb dX12_canSum_201 (by decide) ?_
                  refine lv_icmp_ge (tgt := 212) hx hb dX12_canSum_204 (by decide) (fun c_204 => ?_) (fun c_204 => ?_)
                  · have t_204 : (s9).toInt ≥ 128 := toI_ge c_204 rfl (by decide)
                    refine lv_lload hx hb dX12_canSum_212 (lv_at hl 4 rfl) ?_
                    have hl : lv_has _ _ ([(0, .ref h0), (3, .int hi), (4, .long a5), (6, .long b5), (8, .long c5), (10, .int s9)]) := lv_sub hl [0, 1, 2, 3, 4, 5] rfl
                    exact join2 _ _ _ _ ⟨c5, rfl, hP, hD, hS, hl⟩
                  · have t_204 : ¬ (s9).toInt ≥ 128 := toI_nge c_204 rfl (by decide)
                    refine lv_lload hx hb dX12_canSum_207 (lv_at hl 3 rfl) ?_
                    refine lv_goto (tgt := 214) hx hb dX12_canSum_209 (by decide) ?_
                    have hl : lv_has _ _ ([(0, .ref h0), (3, .int hi), (4, .long a5), (6, .long b5), (8, .long c5), (10, .int s9)]) := lv_sub hl [0, 1, 2, 3, 4, 5] rfl
                    exact join2 _ _ _ _ ⟨b5, rfl, hP, hD, hS, hl⟩
                · have t_191 : ¬ (s9).toInt ≥ 64 := toI_nge c_191 rfl (by decide)
                  refine lv_lload hx hb dX12_canSum_194 (lv_at hl 2 rfl) ?_
                  refine lv_goto (tgt := 214) hx hb dX12_canSum_196 (by decide) ?_
                  have hl : lv_has _ _ ([(0, .ref h0), (3, .int hi), (4, .long a5), (6, .long b5), (8, .long c5), (10, .int s9)]) := lv_sub hl [0, 1, 2, 3, 4, 5] rfl
                  exact join2 _ _ _ _ ⟨a5, rfl, hP, hD, hS, hl⟩
              · rintro H locs ls stk ⟨j2_s0, rfl, hP, hD, hS, hl⟩
                refine lv_iload hx hb dX12_canSum_214 (lv_at hl 5 rfl) ?_
                refine lv_bipush (v := 63) hx hb dX12_canSum_216 (by decide) ?_
                refine lv_iand hx hb dX12_canSum_218 ?_
                refine lv_lushr hx hb dX12_canSum_219 rfl ?_
                refine lv_lconst (v := 1) hx hb dX12_canSum_220 (by decide) ?_
                refine lv_land hx hb dX12_canSum_221 ?_
                refine lv_lconst (v := 1) hx hb dX12_canSum_222 (by decide) ?_
                refine W.lcmp hx hb dX12_canSum_223 ?_
                refine lv_if_ne (tgt := 229) hx hb dX12_canSum_224 (by decide) (fun c_224 => ?_) (fun c_224 => ?_)
                · have t_224 : (((((j2_s0).toUInt64 >>> (((s9 &&& 63) : Int32).toInt64.toUInt64 &&& Int64.toUInt64 63)).toInt64) &&& 1)).toInt ≠ 1 := toL_ne c_224 rfl (by decide)
                  have es1 : (s9 + 1).toInt = (s9).toInt + 1 := by rw [addB (by omega) (by decide)]; rfl
                  refine lv_iinc (v := (s9 + 1)) hx hb dX12_canSum_229 hl (k := 5) rfl rfl (by decide) rfl (fun ls (hl : lv_has ls _ ([(10, .int (s9 + 1)), (0, .ref h0), (3, .int hi), (4, .long a5), (6, .long b5), (8, .long c5)])) => ?_)
                  refine lv_goto (tgt := 173) hx hb dX12_canSum_232 (by decide) ?_
                  have hl : lv_has _ _ ([(0, .ref h0), (3, .int hi), (4, .long a5), (6, .long b5), (8, .long c5), (10, .int (s9 + 1))]) := lv_sub hl [1, 2, 3, 4, 5, 0] rfl
                  exact ih173_1 (s9 + 1) _ _ _ (by omega) (by omega) hP hD hS hl
                · have t_224 : (((((j2_s0).toUInt64 >>> (((s9 &&& 63) : Int32).toInt64.toUInt64 &&& Int64.toUInt64 63)).toInt64) &&& 1)).toInt = 1 := toL_nne c_224 rfl (by decide)
                  refine lv_iconst (v := 1) hx hb dX12_canSum_227 (by decide) ?_
                  refine W.widen (k := 0) (n := 0) (by decide +kernel) (by decide +kernel) ?_
                  exact W.zret (v := 1) hx hb hr rfl (fun t9_ ht hW => ⟨⟨1, (), rfl, by (try dsimp only); exact Or.inl rfl, by rw [ht]; exact hP, hD⟩, hS.F ht⟩) hS.2.2 dX12_canSum_228
    · have t_18 : ¬ ((i5 : Nat) : Int) ≥ ((hn : Nat) : Int) := toI_nge c_18 (nI_toInt (by omega)) (nI_toInt (by omega))
      refine lv_iload_n hx hb dX12_canSum_21 rfl (lv_at hl 1 rfl) ?_
      refine lv_iload hx hb dX12_canSum_22 (lv_at hl 7 rfl) ?_
      refine lv_ishr hx hb dX12_canSum_24 ?_
      refine lv_iconst (v := 1) hx hb dX12_canSum_25 (by decide) ?_
      refine lv_iand hx hb dX12_canSum_26 ?_
      refine lv_if_ne (tgt := 33) hx hb dX12_canSum_27 (by decide) (fun c_27 => ?_) (fun c_27 => ?_)
      · have t_27 : (((sI >>> ((nI i5) &&& 31)) &&& 1)).toInt ≠ 0 := toI_ne c_27 rfl (by decide)
        refine lv_lconst (v := 0) hx hb dX12_canSum_33 (by decide) ?_
        refine lv_lstore hx hb dX12_canSum_34 hl (by decide) rfl (fun ls (hl : lv_has ls _ ([(11, .long 0), (0, .ref h0), (1, .int sI), (2, .int lo), (3, .int hi), (4, .long a5), (6, .long b5), (8, .long c5), (10, .int (nI i5))])) => ?_)
        refine lv_lconst (v := 0) hx hb dX12_canSum_36 (by decide) ?_
        refine lv_lstore hx hb dX12_canSum_37 hl (by decide) rfl (fun ls (hl : lv_has ls _ ([(13, .long 0), (11, .long 0), (0, .ref h0), (1, .int sI), (2, .int lo), (3, .int hi), (4, .long a5), (6, .long b5), (8, .long c5), (10, .int (nI i5))])) => ?_)
        refine lv_lconst (v := 0) hx hb dX12_canSum_39 (by decide) ?_
        refine lv_lstore hx hb dX12_canSum_40 hl (by decide) rfl (fun ls (hl : lv_has ls _ ([(15, .long 0), (13, .long 0), (11, .long 0), (0, .ref h0), (1, .int sI), (2, .int lo), (3, .int hi), (4, .long a5), (6, .long b5), (8, .long c5), (10, .int (nI i5))])) => ?_)
        refine lv_iconst (v := 0) hx hb dX12_canSum_42 (by decide) ?_
        refine lv_istore hx hb dX12_canSum_43 hl (by decide) rfl (fun ls (hl : lv_has ls _ ([(17, .int 0), (15, .long 0), (13, .long 0), (11, .long 0), (0, .ref h0), (1, .int sI), (2, .int lo), (3, .int hi), (4, .long a5), (6, .long b5), (8, .long c5), (10, .int (nI i5))])) => ?_)
        have hl : lv_has _ _ ([(0, .ref h0), (1, .int sI), (2, .int lo), (3, .int hi), (4, .long a5), (6, .long b5), (8, .long c5), (10, .int (nI i5)), (11, .long 0), (13, .long 0), (15, .long 0), (17, .int (nI 0))]) := lv_sub hl [4, 5, 6, 7, 8, 9, 10, 11, 3, 2, 1, 0] rfl
        refine (fun (loop : ∀ (n9 : Nat) (v5 : Nat) (x5 : Int64) (y5 : Int64) (z5 : Int64) (H : Heap) (locs : List Loc) (ls : Array Slot), (v5 ≤ 16) →  (16 < v5 + n9) → va_P (dC, dI) vwCl (WR a k h0 vi vj vF vG) H → va_D A (WR a k h0 vi vj vF vG) → va_S A s.heap H locs → lv_has ls 18 [(0, .ref h0), (1, .int sI), (2, .int lo), (3, .int hi), (4, .long a5), (6, .long b5), (8, .long c5), (10, .int (nI i5)), (11, .long x5), (13, .long y5), (15, .long z5), (17, .int (nI v5))] → W p l e _ s m _ below meth c H locs 0 0 _ (F0 m 45 ls [])) => loop (17) 0 0 0 0 _ _ _ (by omega) (by omega) hP hD hS hl) ?_
        intro n9
        induction n9 with
        | zero => intro v5 x5 y5 z5 H locs ls hv5 hf9; exact False.elim (by omega)
        | succ n9 ih45_2 =>
          intro v5 x5 y5 z5 H locs ls hv5 hf45_2 hP hD hS hl
          refine lv_iload hx hb dX12_canSum_45 (lv_at hl 11 rfl) ?_
          refine lv_bipush (v := 16) hx hb dX12_canSum_47 (by decide) ?_
          refine lv_icmp_ge (tgt := 144) hx hb dX12_canSum_49 (by decide) (fun c_49 => ?_) (fun c_49 => ?_)
          · have t_49 : ((v5 : Nat) : Int) ≥ 16 := toI_ge c_49 (nI_toInt (by omega)) (by decide)
            refine lv_lload hx hb dX12_canSum_144 (lv_at hl 8 rfl) ?_
            refine lv_lstore hx hb dX12_canSum_146 hl (by decide) rfl (fun ls (hl : lv_has ls _ ([(4, .long x5), (0, .ref h0), (1, .int sI), (2, .int lo), (3, .int hi), (6, .long b5), (8, .long c5), (10, .int (nI i5)), (11, .long x5), (13, .long y5), (15, .long z5), (17, .int (nI v5))])) => ?_)
            refine lv_lload hx hb dX12_canSum_148 (lv_at hl 9 rfl) ?_
            refine lv_lstore hx hb dX12_canSum_150 hl (by decide) rfl (fun ls (hl : lv_has ls _ ([(6, .long y5), (4, .long x5), (0, .ref h0), (1, .int sI), (2, .int lo), (3, .int hi), (8, .long c5), (10, .int (nI i5)), (11, .long x5), (13, .long y5), (15, .long z5), (17, .int (nI v5))])) => ?_)
            refine lv_lload hx hb dX12_canSum_152 (lv_at hl 10 rfl) ?_
            refine lv_lstore hx hb dX12_canSum_154 hl (by decide) rfl (fun ls (hl : lv_has ls _ ([(8, .long z5), (6, .long y5), (4, .long x5), (0, .ref h0), (1, .int sI), (2, .int lo), (3, .int hi), (10, .int (nI i5)), (11, .long x5), (13, .long y5), (15, .long z5), (17, .int (nI v5))])) => ?_)
            refine lv_iinc (v := (nI (i5 + 1))) hx hb dX12_canSum_156 hl (k := 7) rfl (nI_add i5 1) (by decide) rfl (fun ls (hl : lv_has ls _ ([(10, .int (nI (i5 + 1))), (8, .long z5), (6, .long y5), (4, .long x5), (0, .ref h0), (1, .int sI), (2, .int lo), (3, .int hi), (11, .long x5), (13, .long y5), (15, .long z5), (17, .int (nI v5))])) => ?_)
            refine lv_goto (tgt := 12) hx hb dX12_canSum_159 (by decide) ?_
            have hl : lv_has _ _ ([(0, .ref h0), (1, .int sI), (2, .int lo), (3, .int hi), (4, .long x5), (6, .long y5), (8, .long z5), (10, .int (nI (i5 + 1)))]) := lv_sub hl [4, 5, 6, 7, 3, 2, 1, 0] rfl
            exact ih12 (i5 + 1) x5 y5 z5 _ _ _ (by omega) (by omega) hP hD hS hl
          · have t_49 : ¬ ((v5 : Nat) : Int) ≥ 16 := toI_nge c_49 (nI_toInt (by omega)) (by decide)
            refine lv_aload_n hx hb dX12_canSum_52 rfl (lv_at hl 0 rfl) ?_
            refine va_get (D := (dC, dI)) (ci := 12) (v := .ref (a 86)) (C := RX12) (T := TX12) (N := 163) (fs := fM (vS a vi vj)) hx hb hts iwsRX12_canSum_in12 hown hK hP 0 rfl rfl 139 (by decide) (hts (.fieldLink RX12 281 "OptimaWorksModel" "with" "[I") (by decide +kernel)) (fun _ h9 => h9) rfl dX12_canSum_53 ?_
            refine lv_iload hx hb dX12_canSum_56 (lv_at hl 7 rfl) ?_
            refine va_iald (cA := k 86) (n := 10) (f := (vF 86)) hx hb hK hP 87 86 (WR_get 86 (by decide)) (TR_get 86 (by decide)) (vp_in_nI (show i5 < 10 by omega) (by omega)) dX12_canSum_58 ?_
            refine lv_topi (fun y2 hy2 => ?_)
            obtain rfl : ((vF 86) i5) = y2 := (hy2.trans (by rw [nI_clamp (by omega)])).symm
            refine lv_iload hx hb dX12_canSum_59 (lv_at hl 11 rfl) ?_
            refine lv_ishr hx hb dX12_canSum_61 ?_
            refine lv_iconst (v := 1) hx hb dX12_canSum_62 (by decide) ?_
            refine lv_iand hx hb dX12_canSum_63 ?_
            refine lv_if_ne (tgt := 70) hx hb dX12_canSum_64 (by decide) (fun c_64 => ?_) (fun c_64 => ?_)
            · have t_64 : (((((vF 86) i5) >>> ((nI v5) &&& 31)) &&& 1)).toInt ≠ 0 := toI_ne c_64 rfl (by decide)
              refine lv_lload hx hb dX12_canSum_70 (lv_at hl 8 rfl) ?_
              refine lv_lload hx hb dX12_canSum_72 (lv_at hl 4 rfl) ?_
              refine lv_iload hx hb dX12_canSum_74 (lv_at hl 11 rfl) ?_
              refine lv_lshl hx hb dX12_canSum_76 rfl ?_
              refine lv_lor hx hb dX12_canSum_77 ?_
              refine lv_lstore hx hb dX12_canSum_78 hl (by decide) rfl (fun ls (hl : lv_has ls _ ([(11, .long (x5 ||| (a5 <<< (((nI v5) : Int32).toInt64 &&& 63)))), (0, .ref h0), (1, .int sI), (2, .int lo), (3, .int hi), (4, .long a5), (6, .long b5), (8, .long c5), (10, .int (nI i5)), (13, .long y5), (15, .long z5), (17, .int (nI v5))])) => ?_)
              refine lv_lload hx hb dX12_canSum_80 (lv_at hl 9 rfl) ?_
              refine lv_iload hx hb dX12_canSum_82 (lv_at hl 11 rfl) ?_
              refine W.cut (pc := 106) (fun H locs ls stk => ∃ (j3_s0 : Int64),  stk = [.long j3_s0, .long y5] ∧ va_P (dC, dI) vwCl (WR a k h0 vi vj vF vG) H ∧ va_D A (WR a k h0 vi vj vF vG) ∧ va_S A s.heap H locs ∧ lv_has ls 18 [(11, .long (x5 ||| (a5 <<< (((nI v5) : Int32).toInt64 &&& 63)))), (0, .ref h0), (1, .int sI), (2, .int lo), (3, .int hi), (4, .long a5), (6, .long b5), (8, .long c5), (10, .int (nI i5)), (13, .long y5), (15, .long z5), (17, .int (nI v5))]) (fun join3 => ?_) ?_
              · refine lv_if_ne (tgt := 92) hx hb dX12_canSum_84 (by decide) (fun c_84 => ?_) (fun c_84 => ?_)
                · have t_84 : ((v5 : Nat) : Int) ≠ 0 := toI_ne c_84 (nI_toInt (by omega)) (by decide)
                  refine lv_lload hx hb dX12_canSum_92 (lv_at hl 6 rfl) ?_
                  refine lv_iload hx hb dX12_canSum_94 (lv_at hl 11 rfl) ?_
                  refine lv_lshl hx hb dX12_canSum_96 rfl ?_
                  refine lv_lload hx hb dX12_canSum_97 (lv_at hl 5 rfl) ?_
                  refine lv_bipush (v := 64) hx hb dX12_canSum_99 (by decide) ?_
                  refine lv_iload hx hb dX12_canSum_101 (lv_at hl 11 rfl) ?_
                  refine lv_isub hx hb dX12_canSum_103 ?_
                  refine lv_lushr hx hb dX12_canSum_104 rfl ?_
                  refine lv_lor hx hb dX12_canSum_105 ?_
                  have hl : lv_has _ _ ([(11, .long (x5 ||| (a5 <<< (((nI v5) : Int32).toInt64 &&& 63)))), (0, .ref h0), (1, .int sI), (2, .int lo), (3, .int hi), (4, .long a5), (6, .long b5), (8, .long c5), (10, .int (nI i5)), (13, .long y5), (15, .long z5), (17, .int (nI v5))]) := lv_sub hl [0, 1, 2, 3, 4, 5, 6, 7, 8, 9, 10, 11] rfl
                  exact join3 _ _ _ _ ⟨((b5 <<< (((nI v5) : Int32).toInt64 &&& 63)) ||| (((a5).toUInt64 >>> (((64 - (nI v5)) : Int32).toInt64.toUInt64 &&& Int64.toUInt64 63)).toInt64)), rfl, hP, hD, hS, hl⟩
                · have t_84 : ((v5 : Nat) : Int) = 0 := toI_nne c_84 (nI_toInt (by omega)) (by decide)
                  refine lv_lload hx hb dX12_canSum_87 (lv_at hl 6 rfl) ?_
                  refine lv_goto (tgt := 106) hx hb dX12_canSum_89 (by decide) ?_
                  have hl : lv_has _ _ ([(11, .long (x5 ||| (a5 <<< (((nI v5) : Int32).toInt64 &&& 63)))), (0, .ref h0), (1, .int sI), (2, .int lo), (3, .int hi), (4, .long a5), (6, .long b5), (8, .long c5), (10, .int (nI i5)), (13, .long y5), (15, .long z5), (17, .int (nI v5))]) := lv_sub hl [0, 1, 2, 3, 4, 5, 6, 7, 8, 9, 10, 11] rfl
                  exact join3 _ _ _ _ ⟨b5, rfl, hP, hD, hS, hl⟩
              · rintro H locs ls stk ⟨j3_s0, rfl, hP, hD, hS, hl⟩
                refine lv_lor hx hb dX12_canSum_106 ?_
                refine lv_lstore hx hb dX12_canSum_107 hl (by decide) rfl (fun ls (hl : lv_has ls _ ([(13, .long (y5 ||| j3_s0)), (11, .long (x5 ||| (a5 <<< (((nI v5) : Int32).toInt64 &&& 63)))), (0, .ref h0), (1, .int sI), (2, .int lo), (3, .int hi), (4, .long a5), (6, .long b5), (8, .long c5), (10, .int (nI i5)), (15, .long z5), (17, .int (nI v5))])) => ?_)
                refine lv_lload hx hb dX12_canSum_109 (lv_at hl 10 rfl) ?_
                refine lv_iload hx hb dX12_canSum_111 (lv_at hl 11 rfl) ?_
                refine W.cut (pc := 135) (fun H locs ls stk => ∃ (j4_s0 : Int64),  stk = [.long j4_s0, .long z5] ∧ va_P (dC, dI) vwCl (WR a k h0 vi vj vF vG) H ∧ va_D A (WR a k h0 vi vj vF vG) ∧ va_S A s.heap H locs ∧ lv_has ls 18 [(13, .long (y5 ||| j3_s0)), (11, .long (x5 ||| (a5 <<< (((nI v5) : Int32).toInt64 &&& 63)))), (0, .ref h0), (1, .int sI), (2, .int lo), (3, .int hi), (4, .long a5), (6, .long b5), (8, .long c5), (10, .int (nI i5)), (15, .long z5), (17, .int (nI v5))]) (fun join4 => ?_) ?_
                · refine lv_if_ne (tgt := 121) hx hb dX12_canSum_113 (by decide) (fun c_113 => ?_) (fun c_113 => ?_)
                  · have t_113 : ((v5 : Nat) : Int) ≠ 0 := toI_ne c_113 (nI_toInt (by omega)) (by decide)
                    refine lv_lload hx hb dX12_canSum_121 (lv_at hl 8 rfl) ?_
                    refine lv_iload hx hb dX12_canSum_123 (lv_at hl 11 rfl) ?_
                    refine lv_lshl hx hb dX12_canSum_125 rfl ?_
                    refine lv_lload hx hb dX12_canSum_126 (lv_at hl 7 rfl) ?_
                    refine lv_bipush (v := 64) hx hb dX12_canSum_128 (by decide) ?_
                    refine lv_iload hx hb dX12_canSum_130 (lv_at hl 11 rfl) ?_
                    refine lv_isub hx hb dX12_canSum_132 ?_
                    refine lv_lushr hx hb dX12_canSum_133 rfl ?_
                    refine lv_lor hx hb dX12_canSum_134 ?_
                    have hl : lv_has _ _ ([(13, .long (y5 ||| j3_s0)), (11, .long (x5 ||| (a5 <<< (((nI v5) : Int32).toInt64 &&& 63)))), (0, .ref h0), (1, .int sI), (2, .int lo), (3, .int hi), (4, .long a5), (6, .long b5), (8, .long c5), (10, .int (nI i5)), (15, .long z5), (17, .int (nI v5))]) := lv_sub hl [0, 1, 2, 3, 4, 5, 6, 7, 8, 9, 10, 11] rfl
                    exact join4 _ _ _ _ ⟨((c5 <<< (((nI v5) : Int32).toInt64 &&& 63)) ||| (((b5).toUInt64 >>> (((64 - (nI v5)) : Int32).toInt64.toUInt64 &&& Int64.toUInt64 63)).toInt64)), rfl, hP, hD, hS, hl⟩
                  · have t_113 : ((v5 : Nat) : Int) = 0 := toI_nne c_113 (nI_toInt (by omega)) (by decide)
                    refine lv_lload hx hb dX12_canSum_116 (lv_at hl 8 rfl) ?_
                    refine lv_goto (tgt := 135) hx hb dX12_canSum_118 (by decide) ?_
                    have hl : lv_has _ _ ([(13, .long (y5 ||| j3_s0)), (11, .long (x5 ||| (a5 <<< (((nI v5) : Int32).toInt64 &&& 63)))), (0, .ref h0), (1, .int sI), (2, .int lo), (3, .int hi), (4, .long a5), (6, .long b5), (8, .long c5), (10, .int (nI i5)), (15, .long z5), (17, .int (nI v5))]) := lv_sub hl [0, 1, 2, 3, 4, 5, 6, 7, 8, 9, 10, 11] rfl
                    exact join4 _ _ _ _ ⟨c5, rfl, hP, hD, hS, hl⟩
                · rintro H locs ls stk ⟨j4_s0, rfl, hP, hD, hS, hl⟩
                  refine lv_lor hx hb dX12_canSum_135 ?_
                  refine lv_lstore hx hb dX12_canSum_136 hl (by decide) rfl (fun ls (hl : lv_has ls _ ([(15, .long (z5 ||| j4_s0)), (13, .long (y5 ||| j3_s0)), (11, .long (x5 ||| (a5 <<< (((nI v5) : Int32).toInt64 &&& 63)))), (0, .ref h0), (1, .int sI), (2, .int lo), (3, .int hi), (4, .long a5), (6, .long b5), (8, .long c5), (10, .int (nI i5)), (17, .int (nI v5))])) => ?_)
                  refine lv_iinc (v := (nI (v5 + 1))) hx hb dX12_canSum_138 hl (k := 11) rfl (nI_add v5 1) (by decide) rfl (fun ls (hl : lv_has ls _ ([(17, .int (nI (v5 + 1))), (15, .long (z5 ||| j4_s0)), (13, .long (y5 ||| j3_s0)), (11, .long (x5 ||| (a5 <<< (((nI v5) : Int32).toInt64 &&& 63)))), (0, .ref h0), (1, .int sI), (2, .int lo), (3, .int hi), (4, .long a5), (6, .long b5), (8, .long c5), (10, .int (nI i5))])) => ?_)
                  refine lv_goto (tgt := 45) hx hb dX12_canSum_141 (by decide) ?_
                  have hl : lv_has _ _ ([(0, .ref h0), (1, .int sI), (2, .int lo), (3, .int hi), (4, .long a5), (6, .long b5), (8, .long c5), (10, .int (nI i5)), (11, .long (x5 ||| (a5 <<< (((nI v5) : Int32).toInt64 &&& 63)))), (13, .long (y5 ||| j3_s0)), (15, .long (z5 ||| j4_s0)), (17, .int (nI (v5 + 1)))]) := lv_sub hl [4, 5, 6, 7, 8, 9, 10, 11, 3, 2, 1, 0] rfl
                  exact ih45_2 (v5 + 1) (x5 ||| (a5 <<< (((nI v5) : Int32).toInt64 &&& 63))) (y5 ||| j3_s0) (z5 ||| j4_s0) _ _ _ (by omega) (by omega) hP hD hS hl
            · have t_64 : (((((vF 86) i5) >>> ((nI v5) &&& 31)) &&& 1)).toInt = 0 := toI_nne c_64 rfl (by decide)
              refine lv_goto (tgt := 138) hx hb dX12_canSum_67 (by decide) ?_
              refine lv_iinc (v := (nI (v5 + 1))) hx hb dX12_canSum_138 hl (k := 11) rfl (nI_add v5 1) (by decide) rfl (fun ls (hl : lv_has ls _ ([(17, .int (nI (v5 + 1))), (0, .ref h0), (1, .int sI), (2, .int lo), (3, .int hi), (4, .long a5), (6, .long b5), (8, .long c5), (10, .int (nI i5)), (11, .long x5), (13, .long y5), (15, .long z5)])) => ?_)
              refine lv_goto (tgt := 45) hx hb dX12_canSum_141 (by decide) ?_
              have hl : lv_has _ _ ([(0, .ref h0), (1, .int sI), (2, .int lo), (3, .int hi), (4, .long a5), (6, .long b5), (8, .long c5), (10, .int (nI i5)), (11, .long x5), (13, .long y5), (15, .long z5), (17, .int (nI (v5 + 1)))]) := lv_sub hl [1, 2, 3, 4, 5, 6, 7, 8, 9, 10, 11, 0] rfl
              exact ih45_2 (v5 + 1) x5 y5 z5 _ _ _ (by omega) (by omega) hP hD hS hl
      · have t_27 : (((sI >>> ((nI i5) &&& 31)) &&& 1)).toInt = 0 := toI_nne c_27 rfl (by decide)
        refine lv_goto (tgt := 156) hx hb dX12_canSum_30 (by decide) ?_
        refine lv_iinc (v := (nI (i5 + 1))) hx hb dX12_canSum_156 hl (k := 7) rfl (nI_add i5 1) (by decide) rfl (fun ls (hl : lv_has ls _ ([(10, .int (nI (i5 + 1))), (0, .ref h0), (1, .int sI), (2, .int lo), (3, .int hi), (4, .long a5), (6, .long b5), (8, .long c5)])) => ?_)
        refine lv_goto (tgt := 12) hx hb dX12_canSum_159 (by decide) ?_
        have hl : lv_has _ _ ([(0, .ref h0), (1, .int sI), (2, .int lo), (3, .int hi), (4, .long a5), (6, .long b5), (8, .long c5), (10, .int (nI (i5 + 1)))]) := lv_sub hl [1, 2, 3, 4, 5, 6, 7, 0] rfl
        exact ih12 (i5 + 1) a5 b5 c5 _ _ _ (by omega) (by omega) hP hD hS hl
theorem dX12_must_0 : decode cX12_must 0 = .ok (.iconst 0, 1) := dk_3 (by decide +kernel)
theorem dX12_must_1 : decode cX12_must 1 = .ok (.istore_n 3, 1) := dk_62 (by decide +kernel)
theorem dX12_must_2 : decode cX12_must 2 = .ok (.iconst 0, 1) := dk_3 (by decide +kernel)
theorem dX12_must_3 : decode cX12_must 3 = .ok (.istore 4, 2) := dk_54 (by decide +kernel)
theorem dX12_must_5 : decode cX12_must 5 = .ok (.iload 4, 2) := dk_21 (by decide +kernel)
theorem dX12_must_7 : decode cX12_must 7 = .ok (.aload_n 0, 1) := dk_42 (by decide +kernel)
theorem dX12_must_8 : decode cX12_must 8 = .ok (.getfield 978, 3) := dk_180 (by decide +kernel)
theorem dX12_must_11 : decode cX12_must 11 = .ok (.if_icmp .ge 38, 3) := dk_162 (by decide +kernel)
theorem dX12_must_14 : decode cX12_must 14 = .ok (.iload_n 3, 1) := dk_29 (by decide +kernel)
theorem dX12_must_15 : decode cX12_must 15 = .ok (.iload_n 1, 1) := dk_27 (by decide +kernel)
theorem dX12_must_16 : decode cX12_must 16 = .ok (.iload 4, 2) := dk_21 (by decide +kernel)
theorem dX12_must_18 : decode cX12_must 18 = .ok (.ishr, 1) := dk_122 (by decide +kernel)
theorem dX12_must_19 : decode cX12_must 19 = .ok (.iconst 1, 1) := dk_4 (by decide +kernel)
theorem dX12_must_20 : decode cX12_must 20 = .ok (.iand, 1) := dk_126 (by decide +kernel)
theorem dX12_must_21 : decode cX12_must 21 = .ok (.iconst 1, 1) := dk_4 (by decide +kernel)
theorem dX12_must_22 : decode cX12_must 22 = .ok (.if_icmp .ne 18, 3) := dk_160 (by decide +kernel)
theorem dX12_must_25 : decode cX12_must 25 = .ok (.aload_n 0, 1) := dk_42 (by decide +kernel)
theorem dX12_must_26 : decode cX12_must 26 = .ok (.getfield 281, 3) := dk_180 (by decide +kernel)
theorem dX12_must_29 : decode cX12_must 29 = .ok (.iload 4, 2) := dk_21 (by decide +kernel)
theorem dX12_must_31 : decode cX12_must 31 = .ok (.iaload, 1) := dk_46 (by decide +kernel)
theorem dX12_must_32 : decode cX12_must 32 = .ok (.iload_n 2, 1) := dk_28 (by decide +kernel)
theorem dX12_must_33 : decode cX12_must 33 = .ok (.if_icmp .ne 7, 3) := dk_160 (by decide +kernel)
theorem dX12_must_36 : decode cX12_must 36 = .ok (.iconst 1, 1) := dk_4 (by decide +kernel)
theorem dX12_must_37 : decode cX12_must 37 = .ok (.goto 4, 3) := dk_167 (by decide +kernel)
theorem dX12_must_40 : decode cX12_must 40 = .ok (.iconst 0, 1) := dk_3 (by decide +kernel)
theorem dX12_must_41 : decode cX12_must 41 = .ok (.iadd, 1) := dk_96 (by decide +kernel)
theorem dX12_must_42 : decode cX12_must 42 = .ok (.istore_n 3, 1) := dk_62 (by decide +kernel)
theorem dX12_must_43 : decode cX12_must 43 = .ok (.iinc 4 1, 3) := dk_132 (by decide +kernel)
theorem dX12_must_46 : decode cX12_must 46 = .ok (.goto (-41), 3) := dk_167 (by decide +kernel)
theorem dX12_must_49 : decode cX12_must 49 = .ok (.iload_n 3, 1) := dk_29 (by decide +kernel)
theorem dX12_must_50 : decode cX12_must 50 = .ok (.ireturn, 1) := dk_172 (by decide +kernel)
def wsRX12_must : List Cond := .code yX12_must cX12_must 5 (some .int) :: ([.fieldLink RX12 978 "OptimaWorksModel" "holders" "I", .fieldLink RX12 281 "OptimaWorksModel" "with" "[I"] ++ wsX120)
theorem iwsRX12_must_in12 : ∀ w ∈ wsX120, w ∈ wsRX12_must := fun _ h => List.mem_cons_of_mem _ (List.mem_append_right _ h)
theorem gdwsRX12_must : wsRX12_must.all goodWord = true := gdC rfl (gdA (by decide +kernel : ([.fieldLink RX12 978 "OptimaWorksModel" "holders" "I", .fieldLink RX12 281 "OptimaWorksModel" "with" "[I"] : List Cond).all goodWord = true) gdwsX120)
set_option maxHeartbeats 4000000 in
set_option maxRecDepth 100000 in
/-- must(set, bit) -/
theorem r_X12_must (l : Launch) (dC : Nat → ClassId) (dI : Nat → Nat → Nat) (a : Nat → Nat) (k : Nat → ClassId) (h0 : Nat) (vi : Nat → Int32) (vj : Nat → Int64) (vF : Nat → Nat → Int32) (vG : Nat → Nat → Int64) (sI : Int32) (bI : Int32) (hn : Nat) (hhn : vi 128 = nI hn) (hhn10 : hn ≤ 10) (sz : Nat) : Met l yX12_must wsRX12_must ({ frames := 0, cells := 0, slots := 0, locals := 0 }) (va_Pc [.ref h0, .int sI, .int bI] (fun U => U.heap.size = sz ∧ va_P (dC, dI) vwCl (WR a k h0 vi vj vF vG) U.heap ∧ va_K (dC, dI) vwCl (tX12 k) U ∧ va_D (fun _ => True) (WR a k h0 vi vj vF vG))) (va_Qi (fun (r : Int32) (u : Unit) => True) (fun (u : Unit) t => va_P (dC, dI) vwCl (WR a k h0 vi vj vF vG) t.heap ∧ va_D (va_A (WR a k h0 vi vj vF vG) sz) (WR a k h0 vi vj vF vG)) (va_A (WR a k h0 vi vj vF vG) sz)) 0 0 (va_A (WR a k h0 vi vj vF vG) sz) := by
  refine Met.ofW (cc := cX12_must) (maxL := 5) (ret := (some .int)) (by decide) rfl ?_
  intro p e s m args below meth c s₁ B hml hv
  obtain ⟨rfl, hsz, hP, hK, hD0⟩ := hv
  have hx := B.exec
  have hb := B.bytes
  have hr := B.returns
  have hts := atoms_spec (ws := wsRX12_must) B.pre
  have hown : s.vm.findClass RX12 = some m.cls := findClass_of_methodNamed B.named
  have hlocks := B.notSynchronized
  subst hsz
  have hD := hD0.self (sz := s.heap.size)
  generalize hAe : va_A (WR a k h0 vi vj vF vG) s.heap.size = A at hD ⊢
  have hA : ∀ q : Nat, s.heap.size ≤ q → A q := fun q h => by rw [← hAe]; exact Or.inr h
  have hS : va_S A s.heap s.heap [] := va_S.rf
  have hl := lv_entry ([.ref h0, .int sI, .int bI]) (n := 5) (Nat.le_of_ble_eq_true rfl)
  rw [lg_entry_eq]
  generalize (lg_sl ([.ref h0, .int sI, .int bI]) ++ List.replicate (5 - (lg_sl ([.ref h0, .int sI, .int bI])).length) Slot.unset).toArray = ls at hl ⊢
  have hl : lv_has ls 5 [(0, .ref h0), (1, .int sI), (2, .int bI)] := hl
  refine lv_iconst (v := 0) hx hb dX12_must_0 (by decide) ?_
  refine lv_istore_n hx hb dX12_must_1 rfl hl (by decide) rfl (fun ls (hl : lv_has ls _ ([(3, .int 0), (0, .ref h0), (1, .int sI), (2, .int bI)])) => ?_)
  refine lv_iconst (v := 0) hx hb dX12_must_2 (by decide) ?_
  refine lv_istore hx hb dX12_must_3 hl (by decide) rfl (fun ls (hl : lv_has ls _ ([(4, .int 0), (3, .int 0), (0, .ref h0), (1, .int sI), (2, .int bI)])) => ?_)
  have hl : lv_has _ _ ([(0, .ref h0), (1, .int sI), (2, .int bI), (3, .int 0), (4, .int (nI 0))]) := lv_sub hl [2, 3, 4, 1, 0] rfl
  refine (fun (loop : ∀ (n9 : Nat) (i5 : Nat) (nq : Int32) (H : Heap) (locs : List Loc) (ls : Array Slot), (i5 ≤ hn) →  (hn < i5 + n9) → va_P (dC, dI) vwCl (WR a k h0 vi vj vF vG) H → va_D A (WR a k h0 vi vj vF vG) → va_S A s.heap H locs → lv_has ls 5 [(0, .ref h0), (1, .int sI), (2, .int bI), (3, .int nq), (4, .int (nI i5))] → W p l e _ s m _ below meth c H locs 0 0 _ (F0 m 5 ls [])) => loop (hn + 1) 0 0 _ _ _ (by omega) (by omega) hP hD hS hl) ?_
  intro n9
  induction n9 with
  | zero => intro i5 nq H locs ls hi5 hf9; exact False.elim (by omega)
  | succ n9 ih5 =>
    intro i5 nq H locs ls hi5 hf5 hP hD hS hl
    refine lv_iload hx hb dX12_must_5 (lv_at hl 4 rfl) ?_
    refine lv_aload_n hx hb dX12_must_7 rfl (lv_at hl 0 rfl) ?_
    refine va_get (D := (dC, dI)) (ci := 12) (v := .int (vi 128)) (C := RX12) (T := TX12) (N := 163) (fs := fM (vS a vi vj)) hx hb hts iwsRX12_must_in12 hown hK hP 0 rfl rfl 128 (by decide) (hts (.fieldLink RX12 978 "OptimaWorksModel" "holders" "I") (by decide +kernel)) (fun _ h9 => h9) rfl dX12_must_8 ?_
    refine lv_topi (fun y1 hy1 => ?_)
    obtain rfl : (nI hn) = y1 := (hy1.trans (hhn)).symm
    refine lv_icmp_ge (tgt := 49) hx hb dX12_must_11 (by decide) (fun c_11 => ?_) (fun c_11 => ?_)
    · have t_11 : ((i5 : Nat) : Int) ≥ ((hn : Nat) : Int) := toI_ge c_11 (nI_toInt (by omega)) (nI_toInt (by omega))
      refine lv_iload_n hx hb dX12_must_49 rfl (lv_at hl 3 rfl) ?_
      refine W.widen (k := 0) (n := 0) (by decide +kernel) (by decide +kernel) ?_
      exact W.iret (v := nq) hx hb hr (fun t9_ ht hW => ⟨⟨nq, (), rfl, trivial, by rw [ht]; exact hP, hD⟩, hS.F ht⟩) hS.2.2 dX12_must_50
    · have t_11 : ¬ ((i5 : Nat) : Int) ≥ ((hn : Nat) : Int) := toI_nge c_11 (nI_toInt (by omega)) (nI_toInt (by omega))
      refine lv_iload_n hx hb dX12_must_14 rfl (lv_at hl 3 rfl) ?_
      refine lv_iload_n hx hb dX12_must_15 rfl (lv_at hl 1 rfl) ?_
      refine lv_iload hx hb dX12_must_16 (lv_at hl 4 rfl) ?_
      refine lv_ishr hx hb dX12_must_18 ?_
      refine lv_iconst (v := 1) hx hb dX12_must_19 (by decide) ?_
      refine lv_iand hx hb dX12_must_20 ?_
      refine lv_iconst (v := 1) hx hb dX12_must_21 (by decide) ?_
      refine W.cut (pc := 41) (fun H locs ls stk => ∃ (j1_s0 : Int32),  stk = [.int j1_s0, .int nq] ∧ va_P (dC, dI) vwCl (WR a k h0 vi vj vF vG) H ∧ va_D A (WR a k h0 vi vj vF vG) ∧ va_S A s.heap H locs ∧ lv_has ls 5 [(0, .ref h0), (1, .int sI), (2, .int bI), (3, .int nq), (4, .int (nI i5))]) (fun join1 => ?_) ?_
      · refine lv_icmp_ne (tgt := 40) hx hb dX12_must_22 (by decide) (fun c_22 => ?_) (fun c_22 => ?_)
        · have t_22 : (((sI >>> ((nI i5) &&& 31)) &&& 1)).toInt ≠ 1 := toI_ne c_22 rfl (by decide)
          refine lv_iconst (v := 0) hx hb dX12_must_40 (by decide) ?_
          have hl : lv_has _ _ ([(0, .ref h0), (1, .int sI), (2, .int bI), (3, .int nq), (4, .int (nI i5))]) := lv_sub hl [0, 1, 2, 3, 4] rfl
          exact join1 _ _ _ _ ⟨0, rfl, hP, hD, hS, hl⟩
        · have t_22 : (((sI >>> ((nI i5) &&& 31)) &&& 1)).toInt = 1 := toI_nne c_22 rfl (by decide)
          refine lv_aload_n hx hb dX12_must_25 rfl (lv_at hl 0 rfl) ?_
          refine va_get (D := (dC, dI)) (ci := 12) (v := .ref (a 86)) (C := RX12) (T := TX12) (N := 163) (fs := fM (vS a vi vj)) hx hb hts iwsRX12_must_in12 hown hK hP 0 rfl rfl 139 (by decide) (hts (.fieldLink RX12 281 "OptimaWorksModel" "with" "[I") (by decide +kernel)) (fun _ h9 => h9) rfl dX12_must_26 ?_
          refine lv_iload hx hb dX12_must_29 (lv_at hl 4 rfl) ?_
          refine va_iald (cA := k 86) (n := 10) (f := (vF 86)) hx hb hK hP 87 86 (WR_get 86 (by decide)) (TR_get 86 (by decide)) (vp_in_nI (show i5 < 10 by omega) (by omega)) dX12_must_31 ?_
          refine lv_topi (fun y2 hy2 => ?_)
          obtain rfl : ((vF 86) i5) = y2 := (hy2.trans (by rw [nI_clamp (by omega)])).symm
          refine lv_iload_n hx hb dX12_must_32 rfl (lv_at hl 2 rfl) ?_
          refine lv_icmp_ne (tgt := 40) hx hb dX12_must_33 (by decide) (fun c_33 => ?_) (fun c_33 => ?_)
          · have t_33 : (((vF 86) i5)).toInt ≠ (bI).toInt := toI_ne c_33 rfl rfl
            refine lv_iconst (v := 0) hx hb dX12_must_40 (by decide) ?_
            have hl : lv_has _ _ ([(0, .ref h0), (1, .int sI), (2, .int bI), (3, .int nq), (4, .int (nI i5))]) := lv_sub hl [0, 1, 2, 3, 4] rfl
            exact join1 _ _ _ _ ⟨0, rfl, hP, hD, hS, hl⟩
          · have t_33 : (((vF 86) i5)).toInt = (bI).toInt := toI_nne c_33 rfl rfl
            refine lv_iconst (v := 1) hx hb dX12_must_36 (by decide) ?_
            refine lv_goto (tgt := 41) hx hb dX12_must_37 (by decide) ?_
            have hl : lv_has _ _ ([(0, .ref h0), (1, .int sI), (2, .int bI), (3, .int nq), (4, .int (nI i5))]) := lv_sub hl [0, 1, 2, 3, 4] rfl
            exact join1 _ _ _ _ ⟨1, rfl, hP, hD, hS, hl⟩
      · rintro H locs ls stk ⟨j1_s0, rfl, hP, hD, hS, hl⟩
        refine lv_iadd hx hb dX12_must_41 ?_
        refine lv_istore_n hx hb dX12_must_42 rfl hl (by decide) rfl (fun ls (hl : lv_has ls _ ([(3, .int (nq + j1_s0)), (0, .ref h0), (1, .int sI), (2, .int bI), (4, .int (nI i5))])) => ?_)
        refine lv_iinc (v := (nI (i5 + 1))) hx hb dX12_must_43 hl (k := 4) rfl (nI_add i5 1) (by decide) rfl (fun ls (hl : lv_has ls _ ([(4, .int (nI (i5 + 1))), (3, .int (nq + j1_s0)), (0, .ref h0), (1, .int sI), (2, .int bI)])) => ?_)
        refine lv_goto (tgt := 5) hx hb dX12_must_46 (by decide) ?_
        have hl : lv_has _ _ ([(0, .ref h0), (1, .int sI), (2, .int bI), (3, .int (nq + j1_s0)), (4, .int (nI (i5 + 1)))]) := lv_sub hl [2, 3, 4, 1, 0] rfl
        exact ih5 (i5 + 1) (nq + j1_s0) _ _ _ (by omega) (by omega) hP hD hS hl
theorem dX12_canPair_0 : decode cX12_canPair 0 = .ok (.aload_n 0, 1) := dk_42 (by decide +kernel)
theorem dX12_canPair_1 : decode cX12_canPair 1 = .ok (.getfield 266, 3) := dk_180 (by decide +kernel)
theorem dX12_canPair_4 : decode cX12_canPair 4 = .ok (.iload_n 1, 1) := dk_27 (by decide +kernel)
theorem dX12_canPair_5 : decode cX12_canPair 5 = .ok (.iaload, 1) := dk_46 (by decide +kernel)
theorem dX12_canPair_6 : decode cX12_canPair 6 = .ok (.istore_n 2, 1) := dk_61 (by decide +kernel)
theorem dX12_canPair_7 : decode cX12_canPair 7 = .ok (.aload_n 0, 1) := dk_42 (by decide +kernel)
theorem dX12_canPair_8 : decode cX12_canPair 8 = .ok (.getfield 269, 3) := dk_180 (by decide +kernel)
theorem dX12_canPair_11 : decode cX12_canPair 11 = .ok (.iload_n 1, 1) := dk_27 (by decide +kernel)
theorem dX12_canPair_12 : decode cX12_canPair 12 = .ok (.iaload, 1) := dk_46 (by decide +kernel)
theorem dX12_canPair_13 : decode cX12_canPair 13 = .ok (.istore_n 3, 1) := dk_62 (by decide +kernel)
theorem dX12_canPair_14 : decode cX12_canPair 14 = .ok (.iconst 0, 1) := dk_3 (by decide +kernel)
theorem dX12_canPair_15 : decode cX12_canPair 15 = .ok (.istore 4, 2) := dk_54 (by decide +kernel)
theorem dX12_canPair_17 : decode cX12_canPair 17 = .ok (.iload 4, 2) := dk_21 (by decide +kernel)
theorem dX12_canPair_19 : decode cX12_canPair 19 = .ok (.bipush 16, 2) := dk_16 (by decide +kernel)
theorem dX12_canPair_21 : decode cX12_canPair 21 = .ok (.if_icmp .ge 48, 3) := dk_162 (by decide +kernel)
theorem dX12_canPair_24 : decode cX12_canPair 24 = .ok (.aload_n 0, 1) := dk_42 (by decide +kernel)
theorem dX12_canPair_25 : decode cX12_canPair 25 = .ok (.getfield 281, 3) := dk_180 (by decide +kernel)
theorem dX12_canPair_28 : decode cX12_canPair 28 = .ok (.iload_n 2, 1) := dk_28 (by decide +kernel)
theorem dX12_canPair_29 : decode cX12_canPair 29 = .ok (.iaload, 1) := dk_46 (by decide +kernel)
theorem dX12_canPair_30 : decode cX12_canPair 30 = .ok (.iload 4, 2) := dk_21 (by decide +kernel)
theorem dX12_canPair_32 : decode cX12_canPair 32 = .ok (.ishr, 1) := dk_122 (by decide +kernel)
theorem dX12_canPair_33 : decode cX12_canPair 33 = .ok (.iconst 1, 1) := dk_4 (by decide +kernel)
theorem dX12_canPair_34 : decode cX12_canPair 34 = .ok (.iand, 1) := dk_126 (by decide +kernel)
theorem dX12_canPair_35 : decode cX12_canPair 35 = .ok (.iconst 1, 1) := dk_4 (by decide +kernel)
theorem dX12_canPair_36 : decode cX12_canPair 36 = .ok (.if_icmp .ne 27, 3) := dk_160 (by decide +kernel)
theorem dX12_canPair_39 : decode cX12_canPair 39 = .ok (.aload_n 0, 1) := dk_42 (by decide +kernel)
theorem dX12_canPair_40 : decode cX12_canPair 40 = .ok (.getfield 281, 3) := dk_180 (by decide +kernel)
theorem dX12_canPair_43 : decode cX12_canPair 43 = .ok (.iload_n 3, 1) := dk_29 (by decide +kernel)
theorem dX12_canPair_44 : decode cX12_canPair 44 = .ok (.iaload, 1) := dk_46 (by decide +kernel)
theorem dX12_canPair_45 : decode cX12_canPair 45 = .ok (.aload_n 0, 1) := dk_42 (by decide +kernel)
theorem dX12_canPair_46 : decode cX12_canPair 46 = .ok (.getfield 275, 3) := dk_180 (by decide +kernel)
theorem dX12_canPair_49 : decode cX12_canPair 49 = .ok (.bipush 16, 2) := dk_16 (by decide +kernel)
theorem dX12_canPair_51 : decode cX12_canPair 51 = .ok (.iload_n 1, 1) := dk_27 (by decide +kernel)
theorem dX12_canPair_52 : decode cX12_canPair 52 = .ok (.imul, 1) := dk_104 (by decide +kernel)
theorem dX12_canPair_53 : decode cX12_canPair 53 = .ok (.iload 4, 2) := dk_21 (by decide +kernel)
theorem dX12_canPair_55 : decode cX12_canPair 55 = .ok (.iadd, 1) := dk_96 (by decide +kernel)
theorem dX12_canPair_56 : decode cX12_canPair 56 = .ok (.iaload, 1) := dk_46 (by decide +kernel)
theorem dX12_canPair_57 : decode cX12_canPair 57 = .ok (.iand, 1) := dk_126 (by decide +kernel)
theorem dX12_canPair_58 : decode cX12_canPair 58 = .ok (.ifCond .eq 5, 3) := dk_153 (by decide +kernel)
theorem dX12_canPair_61 : decode cX12_canPair 61 = .ok (.iconst 1, 1) := dk_4 (by decide +kernel)
theorem dX12_canPair_62 : decode cX12_canPair 62 = .ok (.ireturn, 1) := dk_172 (by decide +kernel)
theorem dX12_canPair_63 : decode cX12_canPair 63 = .ok (.iinc 4 1, 3) := dk_132 (by decide +kernel)
theorem dX12_canPair_66 : decode cX12_canPair 66 = .ok (.goto (-49), 3) := dk_167 (by decide +kernel)
theorem dX12_canPair_69 : decode cX12_canPair 69 = .ok (.iconst 0, 1) := dk_3 (by decide +kernel)
theorem dX12_canPair_70 : decode cX12_canPair 70 = .ok (.ireturn, 1) := dk_172 (by decide +kernel)
def wsRX12_canPair : List Cond := .code yX12_canPair cX12_canPair 5 (some .boolean) :: ([.fieldLink RX12 266 "OptimaWorksModel" "ruleA" "[I", .fieldLink RX12 269 "OptimaWorksModel" "ruleB" "[I", .fieldLink RX12 281 "OptimaWorksModel" "with" "[I", .fieldLink RX12 275 "OptimaWorksModel" "rulePairs" "[I"] ++ wsX120)
theorem iwsRX12_canPair_in12 : ∀ w ∈ wsX120, w ∈ wsRX12_canPair := fun _ h => List.mem_cons_of_mem _ (List.mem_append_right _ h)
theorem gdwsRX12_canPair : wsRX12_canPair.all goodWord = true := gdC rfl (gdA (by decide +kernel : ([.fieldLink RX12 266 "OptimaWorksModel" "ruleA" "[I", .fieldLink RX12 269 "OptimaWorksModel" "ruleB" "[I", .fieldLink RX12 281 "OptimaWorksModel" "with" "[I", .fieldLink RX12 275 "OptimaWorksModel" "rulePairs" "[I"] : List Cond).all goodWord = true) gdwsX120)
theorem hm_r_X12_canPair_0 : (.fieldLink RX12 281 "OptimaWorksModel" "with" "[I" : Cond) ∈ wsRX12_canPair := by decide +kernel
set_option maxHeartbeats 4000000 in
set_option maxRecDepth 100000 in
/-- canPair(r) -/
theorem r_X12_canPair (l : Launch) (dC : Nat → ClassId) (dI : Nat → Nat → Nat) (a : Nat → Nat) (k : Nat → ClassId) (h0 : Nat) (vi : Nat → Int32) (vj : Nat → Int64) (vF : Nat → Nat → Int32) (vG : Nat → Nat → Int64) (rN : Nat) (xN : Nat) (yN : Nat) (hrN : rN < 12) (hxN : xN < 10) (hyN : yN < 10) (eA : vF 81 rN = nI xN) (eB : vF 82 rN = nI yN) (sz : Nat) : Met l yX12_canPair wsRX12_canPair ({ frames := 0, cells := 0, slots := 0, locals := 0 }) (va_Pc [.ref h0, .int (nI rN)] (fun U => U.heap.size = sz ∧ va_P (dC, dI) vwCl (WR a k h0 vi vj vF vG) U.heap ∧ va_K (dC, dI) vwCl (tX12 k) U ∧ va_D (fun _ => True) (WR a k h0 vi vj vF vG))) (va_Qi (fun (r : Int32) (u : Unit) => (r = 1) ∨ (r = 0)) (fun (u : Unit) t => va_P (dC, dI) vwCl (WR a k h0 vi vj vF vG) t.heap ∧ va_D (va_A (WR a k h0 vi vj vF vG) sz) (WR a k h0 vi vj vF vG)) (va_A (WR a k h0 vi vj vF vG) sz)) 0 0 (va_A (WR a k h0 vi vj vF vG) sz) := by
  refine Met.ofW (cc := cX12_canPair) (maxL := 5) (ret := (some .boolean)) (by decide) rfl ?_
  intro p e s m args below meth c s₁ B hml hv
  obtain ⟨rfl, hsz, hP, hK, hD0⟩ := hv
  have hx := B.exec
  have hb := B.bytes
  have hr := B.returns
  have hts := atoms_spec (ws := wsRX12_canPair) B.pre
  have hown : s.vm.findClass RX12 = some m.cls := findClass_of_methodNamed B.named
  have hlocks := B.notSynchronized
  subst hsz
  have hD := hD0.self (sz := s.heap.size)
  generalize hAe : va_A (WR a k h0 vi vj vF vG) s.heap.size = A at hD ⊢
  have hA : ∀ q : Nat, s.heap.size ≤ q → A q := fun q h => by rw [← hAe]; exact Or.inr h
  have hS : va_S A s.heap s.heap [] := va_S.rf
  have hl := lv_entry ([.ref h0, .int (nI rN)]) (n := 5) (Nat.le_of_ble_eq_true rfl)
  rw [lg_entry_eq]
  generalize (lg_sl ([.ref h0, .int (nI rN)]) ++ List.replicate (5 - (lg_sl ([.ref h0, .int (nI rN)])).length) Slot.unset).toArray = ls at hl ⊢
  have hl : lv_has ls 5 [(0, .ref h0), (1, .int (nI rN))] := hl
  refine lv_aload_n hx hb dX12_canPair_0 rfl (lv_at hl 0 rfl) ?_
  refine va_get (D := (dC, dI)) (ci := 12) (v := .ref (a 81)) (C := RX12) (T := TX12) (N := 163) (fs := fM (vS a vi vj)) hx hb hts iwsRX12_canPair_in12 hown hK hP 0 rfl rfl 133 (by decide) (hts (.fieldLink RX12 266 "OptimaWorksModel" "ruleA" "[I") (by decide +kernel)) (fun _ h9 => h9) rfl dX12_canPair_1 ?_
  refine lv_iload_n hx hb dX12_canPair_4 rfl (lv_at hl 1 rfl) ?_
  refine va_iald (cA := k 81) (n := 12) (f := (vF 81)) hx hb hK hP 82 81 (WR_get 81 (by decide)) (TR_get 81 (by decide)) (vp_in_nI (show rN < 12 by omega) (by omega)) dX12_canPair_5 ?_
  refine lv_topi (fun y1 hy1 => ?_)
  obtain rfl : ((vF 81) rN) = y1 := (hy1.trans (by rw [nI_clamp (by omega)])).symm
  refine lv_topi (fun y2 hy2 => ?_)
  obtain rfl : (nI xN) = y2 := (hy2.trans (eA)).symm
  refine lv_istore_n hx hb dX12_canPair_6 rfl hl (by decide) rfl (fun ls (hl : lv_has ls _ ([(2, .int (nI xN)), (0, .ref h0), (1, .int (nI rN))])) => ?_)
  refine lv_aload_n hx hb dX12_canPair_7 rfl (lv_at hl 1 rfl) ?_
  refine va_get (D := (dC, dI)) (ci := 12) (v := .ref (a 82)) (C := RX12) (T := TX12) (N := 163) (fs := fM (vS a vi vj)) hx hb hts iwsRX12_canPair_in12 hown hK hP 0 rfl rfl 134 (by decide) (hts (.fieldLink RX12 269 "OptimaWorksModel" "ruleB" "[I") (by decide +kernel)) (fun _ h9 => h9) rfl dX12_canPair_8 ?_
  refine lv_iload_n hx hb dX12_canPair_11 rfl (lv_at hl 2 rfl) ?_
  refine va_iald (cA := k 82) (n := 12) (f := (vF 82)) hx hb hK hP 83 82 (WR_get 82 (by decide)) (TR_get 82 (by decide)) (vp_in_nI (show rN < 12 by omega) (by omega)) dX12_canPair_12 ?_
  refine lv_topi (fun y3 hy3 => ?_)
  obtain rfl : ((vF 82) rN) = y3 := (hy3.trans (by rw [nI_clamp (by omega)])).symm
  refine lv_topi (fun y4 hy4 => ?_)
  obtain rfl : (nI yN) = y4 := (hy4.trans (eB)).symm
  refine lv_istore_n hx hb dX12_canPair_13 rfl hl (by decide) rfl (fun ls (hl : lv_has ls _ ([(3, .int (nI yN)), (2, .int (nI xN)), (0, .ref h0), (1, .int (nI rN))])) => ?_)
  refine lv_iconst (v := 0) hx hb dX12_canPair_14 (by decide) ?_
  refine lv_istore hx hb dX12_canPair_15 hl (by decide) rfl (fun ls (hl : lv_has ls _ ([(4, .int 0), (3, .int (nI yN)), (2, .int (nI xN)), (0, .ref h0), (1, .int (nI rN))])) => ?_)
  have hl : lv_has _ _ ([(0, .ref h0), (1, .int (nI rN)), (2, .int (nI xN)), (3, .int (nI yN)), (4, .int (nI 0))]) := lv_sub hl [3, 4, 2, 1, 0] rfl
  refine (fun (loop : ∀ (n9 : Nat) (v5 : Nat) (H : Heap) (locs : List Loc) (ls : Array Slot), (v5 ≤ 16) →  (16 < v5 + n9) → va_P (dC, dI) vwCl (WR a k h0 vi vj vF vG) H → va_D A (WR a k h0 vi vj vF vG) → va_S A s.heap H locs → lv_has ls 5 [(0, .ref h0), (1, .int (nI rN)), (2, .int (nI xN)), (3, .int (nI yN)), (4, .int (nI v5))] → W p l e _ s m _ below meth c H locs 0 0 _ (F0 m 17 ls [])) => loop (17) 0 _ _ _ (by omega) (by omega) hP hD hS hl) ?_
  intro n9
  induction n9 with
  | zero => intro v5 H locs ls hv5 hf9; exact False.elim (by omega)
  | succ n9 ih17 =>
    intro v5 H locs ls hv5 hf17 hP hD hS hl
    refine lv_iload hx hb dX12_canPair_17 (lv_at hl 4 rfl) ?_
    refine lv_bipush (v := 16) hx hb dX12_canPair_19 (by decide) ?_
    refine lv_icmp_ge (tgt := 69) hx hb dX12_canPair_21 (by decide) (fun c_21 => ?_) (fun c_21 => ?_)
    · have t_21 : ((v5 : Nat) : Int) ≥ 16 := toI_ge c_21 (nI_toInt (by omega)) (by decide)
      refine lv_iconst (v := 0) hx hb dX12_canPair_69 (by decide) ?_
      refine W.widen (k := 0) (n := 0) (by decide +kernel) (by decide +kernel) ?_
      exact W.zret (v := 0) hx hb hr rfl (fun t9_ ht hW => ⟨⟨0, (), rfl, by (try dsimp only); exact Or.inr rfl, by rw [ht]; exact hP, hD⟩, hS.F ht⟩) hS.2.2 dX12_canPair_70
    · have t_21 : ¬ ((v5 : Nat) : Int) ≥ 16 := toI_nge c_21 (nI_toInt (by omega)) (by decide)
      refine lv_aload_n hx hb dX12_canPair_24 rfl (lv_at hl 0 rfl) ?_
      refine va_get (D := (dC, dI)) (ci := 12) (v := .ref (a 86)) (C := RX12) (T := TX12) (N := 163) (fs := fM (vS a vi vj)) hx hb hts iwsRX12_canPair_in12 hown hK hP 0 rfl rfl 139 (by decide) (hts _ hm_r_X12_canPair_0) (fun _ h9 => h9) rfl dX12_canPair_25 ?_
      refine lv_iload_n hx hb dX12_canPair_28 rfl (lv_at hl 2 rfl) ?_
      refine va_iald (cA := k 86) (n := 10) (f := (vF 86)) hx hb hK hP 87 86 (WR_get 86 (by decide)) (TR_get 86 (by decide)) (vp_in_nI (show xN < 10 by omega) (by omega)) dX12_canPair_29 ?_
      refine lv_topi (fun y5 hy5 => ?_)
      obtain rfl : ((vF 86) xN) = y5 := (hy5.trans (by rw [nI_clamp (by omega)])).symm
      refine lv_iload hx hb dX12_canPair_30 (lv_at hl 4 rfl) ?_
      refine lv_ishr hx hb dX12_canPair_32 ?_
      refine lv_iconst (v := 1) hx hb dX12_canPair_33 (by decide) ?_
      refine lv_iand hx hb dX12_canPair_34 ?_
      refine lv_iconst (v := 1) hx hb dX12_canPair_35 (by decide) ?_
      refine lv_icmp_ne (tgt := 63) hx hb dX12_canPair_36 (by decide) (fun c_36 => ?_) (fun c_36 => ?_)
      · have t_36 : (((((vF 86) xN) >>> ((nI v5) &&& 31)) &&& 1)).toInt ≠ 1 := toI_ne c_36 rfl (by decide)
        refine lv_iinc (v := (nI (v5 + 1))) hx hb dX12_canPair_63 hl (k := 4) rfl (nI_add v5 1) (by decide) rfl (fun ls (hl : lv_has ls _ ([(4, .int (nI (v5 + 1))), (0, .ref h0), (1, .int (nI rN)), (2, .int (nI xN)), (3, .int (nI yN))])) => ?_)
        refine lv_goto (tgt := 17) hx hb dX12_canPair_66 (by decide) ?_
        have hl : lv_has _ _ ([(0, .ref h0), (1, .int (nI rN)), (2, .int (nI xN)), (3, .int (nI yN)), (4, .int (nI (v5 + 1)))]) := lv_sub hl [1, 2, 3, 4, 0] rfl
        exact ih17 (v5 + 1) _ _ _ (by omega) (by omega) hP hD hS hl
      · have t_36 : (((((vF 86) xN) >>> ((nI v5) &&& 31)) &&& 1)).toInt = 1 := toI_nne c_36 rfl (by decide)
        refine lv_aload_n hx hb dX12_canPair_39 rfl (lv_at hl 0 rfl) ?_
        refine va_get (D := (dC, dI)) (ci := 12) (v := .ref (a 86)) (C := RX12) (T := TX12) (N := 163) (fs := fM (vS a vi vj)) hx hb hts iwsRX12_canPair_in12 hown hK hP 0 rfl rfl 139 (by decide) (hts _ hm_r_X12_canPair_0) (fun _ h9 => h9) rfl dX12_canPair_40 ?_
        refine lv_iload_n hx hb dX12_canPair_43 rfl (lv_at hl 3 rfl) ?_
        refine va_iald (cA := k 86) (n := 10) (f := (vF 86)) hx hb hK hP 87 86 (WR_get 86 (by decide)) (TR_get 86 (by decide)) (vp_in_nI (show yN < 10 by omega) (by omega)) dX12_canPair_44 ?_
        refine lv_topi (fun y6 hy6 => ?_)
        obtain rfl : ((vF 86) yN) = y6 := (hy6.trans (by rw [nI_clamp (by omega)])).symm
        refine lv_aload_n hx hb dX12_canPair_45 rfl (lv_at hl 0 rfl) ?_
        refine va_get (D := (dC, dI)) (ci := 12) (v := .ref (a 84)) (C := RX12) (T := TX12) (N := 163) (fs := fM (vS a vi vj)) hx hb hts iwsRX12_canPair_in12 hown hK hP 0 rfl rfl 136 (by decide) (hts (.fieldLink RX12 275 "OptimaWorksModel" "rulePairs" "[I") (by decide +kernel)) (fun _ h9 => h9) rfl dX12_canPair_46 ?_
        refine lv_bipush (v := 16) hx hb dX12_canPair_49 (by decide) ?_
        refine lv_iload_n hx hb dX12_canPair_51 rfl (lv_at hl 1 rfl) ?_
        refine lv_imul hx hb dX12_canPair_52 ?_
        refine lv_topi (fun y7 hy7 => ?_)
        obtain rfl : (nI (16 * rN)) = y7 := (hy7.trans (pk_mul 16 rN)).symm
        refine lv_iload hx hb dX12_canPair_53 (lv_at hl 4 rfl) ?_
        refine lv_iadd hx hb dX12_canPair_55 ?_
        refine lv_topi (fun y8 hy8 => ?_)
        obtain rfl : (nI ((16 * rN) + v5)) = y8 := (hy8.trans (nI_add (16 * rN) v5)).symm
        refine va_iald (cA := k 84) (n := 192) (f := (vF 84)) hx hb hK hP 85 84 (WR_get 84 (by decide)) (TR_get 84 (by decide)) (vp_in_nI (show ((16 * rN) + v5) < 192 by omega) (by omega)) dX12_canPair_56 ?_
        refine lv_topi (fun y9 hy9 => ?_)
        obtain rfl : ((vF 84) ((16 * rN) + v5)) = y9 := (hy9.trans (by rw [nI_clamp (by omega)])).symm
        refine lv_iand hx hb dX12_canPair_57 ?_
        refine lv_if_eq (tgt := 63) hx hb dX12_canPair_58 (by decide) (fun c_58 => ?_) (fun c_58 => ?_)
        · have t_58 : ((((vF 86) yN) &&& ((vF 84) ((16 * rN) + v5)))).toInt = 0 := toI_eq c_58 rfl (by decide)
          refine lv_iinc (v := (nI (v5 + 1))) hx hb dX12_canPair_63 hl (k := 4) rfl (nI_add v5 1) (by decide) rfl (fun ls (hl : lv_has ls _ ([(4, .int (nI (v5 + 1))), (0, .ref h0), (1, .int (nI rN)), (2, .int (nI xN)), (3, .int (nI yN))])) => ?_)
          refine lv_goto (tgt := 17) hx hb dX12_canPair_66 (by decide) ?_
          have hl : lv_has _ _ ([(0, .ref h0), (1, .int (nI rN)), (2, .int (nI xN)), (3, .int (nI yN)), (4, .int (nI (v5 + 1)))]) := lv_sub hl [1, 2, 3, 4, 0] rfl
          exact ih17 (v5 + 1) _ _ _ (by omega) (by omega) hP hD hS hl
        · have t_58 : ¬ ((((vF 86) yN) &&& ((vF 84) ((16 * rN) + v5)))).toInt = 0 := toI_neq c_58 rfl (by decide)
          refine lv_iconst (v := 1) hx hb dX12_canPair_61 (by decide) ?_
          refine W.widen (k := 0) (n := 0) (by decide +kernel) (by decide +kernel) ?_
          exact W.zret (v := 1) hx hb hr rfl (fun t9_ ht hW => ⟨⟨1, (), rfl, by (try dsimp only); exact Or.inl rfl, by rw [ht]; exact hP, hD⟩, hS.F ht⟩) hS.2.2 dX12_canPair_62
end
section
theorem sum_dec {f g : Nat → Nat} {h : Nat} (e : ∀ q, q ≠ h → g q = f q) (hl : g h < f h) : ∀ n, h < n → sumN n g < sumN n f := by
  intro n
  induction n with
  | zero => intro h9; omega
  | succ n ih =>
    intro h9
    simp only [sumN]
    by_cases e9 : h = n
    · subst e9
      have : sumN h g = sumN h f := by
        have key : ∀ k, k ≤ h → sumN k g = sumN k f := by
          intro k
          induction k with
          | zero => intro _; rfl
          | succ k ih2 => intro hk; simp only [sumN]; rw [ih2 (by omega), e k (by omega)]
        exact key h (Nat.le_refl _)
      omega
    · have := ih (by omega); rw [e n (by omega)]; omega
theorem inc_nI {x : Int32} (h : -1 ≤ x.toInt ∧ x.toInt ≤ 16) : ∃ v : Nat, x + 1 = nI v ∧ (v : Int) = x.toInt + 1 ∧ v ≤ 17 := by
  have e1 : (x + 1).toInt = x.toInt + 1 := by rw [addB (by omega) (by decide)]; rfl
  obtain ⟨v, hv, ev⟩ := of_toInt (x := x + 1) (k := 18) (by omega) (by omega)
  refine ⟨v, ev, ?_, by omega⟩
  rw [← e1, ev, nI_toInt (by omega)]
/-- the figures of a row of values -/
def dgR (f : Nat → Int32) (h : Nat) : Nat := ((f h).toInt + 1).toNat
def RvO (f : Nat → Int32) (hn : Nat) : Prop := ∀ h, h < hn → -1 ≤ (f h).toInt ∧ (f h).toInt ≤ 16
theorem RvO.dg {f : Nat → Int32} {hn : Nat} (h : RvO f hn) {q : Nat} (hq : q < hn) : dgR f q < 18 := by
  have := h q hq
  unfold dgR; omega
theorem RvO.set {f g : Nat → Int32} {hn k : Nat} (h : RvO f hn) (e : ∀ q, q ≠ k → g q = f q) (h1 : -1 ≤ (g k).toInt ∧ (g k).toInt ≤ 16) : RvO g hn := fun q hq => by
  by_cases e9 : q = k
  · subst e9; exact h1
  · rw [e q e9]; exact h q hq
end

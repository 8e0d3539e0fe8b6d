section
theorem hd_yX12_declared_RX12 : yX12_declared.cls = RX12 ∧ yX12_declared.cls ≠ "java/lang/invoke/MethodHandle" ∧ yX12_declared.cls ≠ "java/lang/invoke/VarHandle" ∧ (parseMethodDescriptor yX12_declared.desc).map (fun d => d.parameters.length) = some 0 := by decide +kernel
theorem dX12_stepOne_0 : decode cX12_stepOne 0 = .ok (.aload_n 0, 1) := dk_42 (by decide +kernel)
theorem dX12_stepOne_1 : decode cX12_stepOne 1 = .ok (.getfield 641, 3) := dk_180 (by decide +kernel)
theorem dX12_stepOne_4 : decode cX12_stepOne 4 = .ok (.sipush 20000, 3) := dk_17 (by decide +kernel)
theorem dX12_stepOne_7 : decode cX12_stepOne 7 = .ok (.if_icmp .ne 16, 3) := dk_160 (by decide +kernel)
theorem dX12_stepOne_10 : decode cX12_stepOne 10 = .ok (.aload_n 0, 1) := dk_42 (by decide +kernel)
theorem dX12_stepOne_11 : decode cX12_stepOne 11 = .ok (.bipush 11, 2) := dk_16 (by decide +kernel)
theorem dX12_stepOne_13 : decode cX12_stepOne 13 = .ok (.aload_n 0, 1) := dk_42 (by decide +kernel)
theorem dX12_stepOne_14 : decode cX12_stepOne 14 = .ok (.getfield 644, 3) := dk_180 (by decide +kernel)
theorem dX12_stepOne_17 : decode cX12_stepOne 17 = .ok (.invokevirtual 518, 3) := dk_182 (by decide +kernel)
theorem dX12_stepOne_20 : decode cX12_stepOne 20 = .ok (.goto 13, 3) := dk_167 (by decide +kernel)
theorem dX12_stepOne_23 : decode cX12_stepOne 23 = .ok (.aload_n 0, 1) := dk_42 (by decide +kernel)
theorem dX12_stepOne_24 : decode cX12_stepOne 24 = .ok (.dup, 1) := dk_89 (by decide +kernel)
theorem dX12_stepOne_25 : decode cX12_stepOne 25 = .ok (.getfield 641, 3) := dk_180 (by decide +kernel)
theorem dX12_stepOne_28 : decode cX12_stepOne 28 = .ok (.iconst 1, 1) := dk_4 (by decide +kernel)
theorem dX12_stepOne_29 : decode cX12_stepOne 29 = .ok (.iadd, 1) := dk_96 (by decide +kernel)
theorem dX12_stepOne_30 : decode cX12_stepOne 30 = .ok (.putfield 641, 3) := dk_181 (by decide +kernel)
theorem dX12_stepOne_33 : decode cX12_stepOne 33 = .ok (.return_, 1) := dk_177 (by decide +kernel)
def wsRX12_stepOne : List Cond := .code yX12_stepOne cX12_stepOne 1 none :: ([.fieldLink RX12 641 "OptimaWorksModel" "steps" "I", .fieldLink RX12 644 "OptimaWorksModel" "begun" "I"] ++ wsX120 ++ (wsV RX12 518 RX12 yX12_faultAt wsRX12_faultAt))
theorem iwsRX12_stepOne_in12 : ∀ w ∈ wsX120, w ∈ wsRX12_stepOne := fun _ h => List.mem_cons_of_mem _ (List.mem_append_left _ (List.mem_append_right _ h))
theorem gwsRX12_stepOne_0 : GoodIn wsRX12_stepOne (wsV RX12 518 RX12 yX12_faultAt wsRX12_faultAt) := goodIn_sub (fun _ h => List.mem_cons_of_mem _ (List.mem_append_right _ h)) (gdV (by decide +kernel) gdwsRX12_faultAt)
theorem gdwsRX12_stepOne : wsRX12_stepOne.all goodWord = true := gdC rfl (gdA (gdA (by decide +kernel : ([.fieldLink RX12 641 "OptimaWorksModel" "steps" "I", .fieldLink RX12 644 "OptimaWorksModel" "begun" "I"] : List Cond).all goodWord = true) gdwsX120) (gdV (by decide +kernel) gdwsRX12_faultAt))
theorem hm_r_X12_stepOne_0 : (.fieldLink RX12 641 "OptimaWorksModel" "steps" "I" : Cond) ∈ wsRX12_stepOne := by decide +kernel
set_option maxHeartbeats 4000000 in
set_option maxRecDepth 100000 in
/-- stepOne() -/
theorem r_X12_stepOne (l : Launch) (dC : Nat → ClassId) (dI : Nat → Nat → Nat) (a : Nat → Nat) (k : Nat → ClassId) (h0 : Nat) (vi : Nat → Int32) (vj : Nat → Int64) (vF : Nat → Nat → Int32) (vG : Nat → Nat → Int64) (hst0 : 0 ≤ (vi 21).toInt) (sz : Nat) : Met l yX12_stepOne wsRX12_stepOne ({ frames := 1, cells := 0, slots := 0, locals := 22 }) (va_Pc [.ref h0] (fun U => U.heap.size = sz ∧ va_P (dC, dI) vwCl (WR a k h0 vi vj vF vG) U.heap ∧ va_K (dC, dI) vwCl (tX12 k) U ∧ va_D (fun _ => True) (WR a k h0 vi vj vF vG))) (va_Qv (fun (u : (Int32) × (Int32) × (Int32)) => (0 ≤ ((u.1)).toInt) ∧ ((u.1) = vi 21 ∨ 0 < ((u.1)).toInt)) (fun (u : (Int32) × (Int32) × (Int32)) t => va_P (dC, dI) vwCl (WR a k h0 (fT (fT (fT vi 21 (u.1)) 22 (u.2.1)) 82 (u.2.2)) vj vF vG) t.heap ∧ va_D (va_A (WR a k h0 vi vj vF vG) sz) (WR a k h0 (fT (fT (fT vi 21 (u.1)) 22 (u.2.1)) 82 (u.2.2)) vj vF vG)) (va_A (WR a k h0 vi vj vF vG) sz)) 0 0 (va_A (WR a k h0 vi vj vF vG) sz) := by
  refine Met.ofW (cc := cX12_stepOne) (maxL := 1) (ret := none) (by decide) rfl ?_
  intro p e s m args below meth c s₁ B hml hv
  obtain ⟨rfl, hsz, hP, hK, hD0⟩ := hv
  have hx := B.exec
  have hb := B.bytes
  have hr := B.returns
  have hts := atoms_spec (ws := wsRX12_stepOne) B.pre
  have hown : s.vm.findClass RX12 = some m.cls := findClass_of_methodNamed B.named
  have hlocks := B.notSynchronized
  subst hsz
  have hD := hD0.self (sz := s.heap.size)
  generalize hAe : va_A (WR a k h0 vi vj vF vG) s.heap.size = A at hD ⊢
  have hA : ∀ q : Nat, s.heap.size ≤ q → A q := fun q h => by rw [← hAe]; exact Or.inr h
  have hS : va_S A s.heap s.heap [] := va_S.rf
  have hl := lv_entry ([.ref h0]) (n := 1) (Nat.le_of_ble_eq_true rfl)
  rw [lg_entry_eq]
  generalize (lg_sl ([.ref h0]) ++ List.replicate (1 - (lg_sl ([.ref h0])).length) Slot.unset).toArray = ls at hl ⊢
  have hl : lv_has ls 1 [(0, .ref h0)] := hl
  refine lv_aload_n hx hb dX12_stepOne_0 rfl (lv_at hl 0 rfl) ?_
  refine va_get (D := (dC, dI)) (ci := 12) (v := .int (vi 82)) (C := RX12) (T := TX12) (N := 163) (fs := fM (vS a vi vj)) hx hb hts iwsRX12_stepOne_in12 hown hK hP 0 rfl rfl 82 (by decide) (hts _ hm_r_X12_stepOne_0) (fun _ h9 => h9) rfl dX12_stepOne_1 ?_
  refine lv_sipush (v := 20000) hx hb dX12_stepOne_4 (by decide) ?_
  refine lv_icmp_ne (tgt := 23) hx hb dX12_stepOne_7 (by decide) (fun c_7 => ?_) (fun c_7 => ?_)
  · have t_7 : ((vi 82)).toInt ≠ 20000 := toI_ne c_7 rfl (by decide)
    refine lv_aload_n hx hb dX12_stepOne_23 rfl (lv_at hl 0 rfl) ?_
    refine lv_dup hx hb dX12_stepOne_24 rfl ?_
    refine va_get (D := (dC, dI)) (ci := 12) (v := .int (vi 82)) (C := RX12) (T := TX12) (N := 163) (fs := fM (vS a vi vj)) hx hb hts iwsRX12_stepOne_in12 hown hK hP 0 rfl rfl 82 (by decide) (hts _ hm_r_X12_stepOne_0) (fun _ h9 => h9) rfl dX12_stepOne_25 ?_
    refine lv_iconst (v := 1) hx hb dX12_stepOne_28 (by decide) ?_
    refine lv_iadd hx hb dX12_stepOne_29 ?_
    refine va_put (D := (dC, dI)) (ci := 12) (v := .int ((vi 82) + 1)) (ty := .int) (C := RX12) (T := TX12) (N := 163) (fs := fM (vS a vi vj)) hx hb hts iwsRX12_stepOne_in12 tyX12 tyX12_ok nmX12 hown hK hP hD hS 0 rfl rfl 82 (by decide) (hts _ hm_r_X12_stepOne_0) (fun _ h9 => h9) rfl (by decide +kernel) rfl rfl (Nat.le_of_ble_eq_true rfl) dX12_stepOne_30 (fun H locs hP hD hS => ?_)
    have hP : va_P (dC, dI) vwCl (WR a k h0 (fT vi 82 ((vi 82) + 1)) vj vF vG) H := fz_w (WR_i 82 _ rfl) hP
    have hD : va_D A (WR a k h0 (fT vi 82 ((vi 82) + 1)) vj vF vG) := fz_wD (WR_i 82 _ rfl) hD
    refine W.widen (k := 0) (n := 0) (by decide +kernel) (by decide +kernel) ?_
    have e9 : fT (fT (fT vi 21 (vi 21)) 22 (vi 22)) 82 ((vi 82) + 1) = fT vi 82 ((vi 82) + 1) := Eq.trans (mv_2 rfl) (Eq.trans (id_2 rfl) (Eq.trans (mv_1 rfl) (id_1 rfl)))
    have hP := wr_Pi e9 hP
    have hD := wr_Di e9 hD
    clear e9
    exact W.vret hx hb hr (fun t9_ ht hW => ⟨⟨((vi 21), (vi 22), ((vi 82) + 1)), rfl, by (try dsimp only); exact ⟨hst0, Or.inl rfl⟩, by rw [ht]; exact hP, hD⟩, hS.F ht⟩) hS.2.2 dX12_stepOne_33
  · have t_7 : ((vi 82)).toInt = 20000 := toI_nne c_7 rfl (by decide)
    refine lv_aload_n hx hb dX12_stepOne_10 rfl (lv_at hl 0 rfl) ?_
    refine lv_bipush (v := 11) hx hb dX12_stepOne_11 (by decide) ?_
    refine lv_aload_n hx hb dX12_stepOne_13 rfl (lv_at hl 0 rfl) ?_
    refine va_get (D := (dC, dI)) (ci := 12) (v := .int (vi 83)) (C := RX12) (T := TX12) (N := 163) (fs := fM (vS a vi vj)) hx hb hts iwsRX12_stepOne_in12 hown hK hP 0 rfl rfl 83 (by decide) (hts (.fieldLink RX12 644 "OptimaWorksModel" "begun" "I") (by decide +kernel)) (fun _ h9 => h9) rfl dX12_stepOne_14 ?_
    have hFc := allFree hD hS hA
    refine va_callv (va_runV (As := [.int 11, .int (vi 83)]) (rest := []) ⟨hx, hb, hml, hown, hts⟩ (r_X12_faultAt l dC dI a k h0 vi vj vF vG 11 (vi 83) (by first | with_reducible assumption | decide | omega | rfl | assumption) s.heap.size) (cwV 2 hts gwsRX12_stepOne_0 rfl rfl rfl hd_yX12_faultAt_RX12 (by decide +kernel)) (fz_pre (va_recv hK hP (ci := 12) (q0 := 0) rfl rfl) hP hK hD) rfl rfl hl.1 rfl (lv_room (Nat.le_of_ble_eq_true rfl)) dX12_stepOne_17 (by decide +kernel)) hS (fun q _ h => hFc q h) hFc (fun u t9_ H locs ht hvm hw9 hB9 hz1 hk1 hS => ?_)
    revert u hw9 hB9
    refine fz_p2 ?_
    intro s217 p217 hw9 hB9
    try dsimp only at hw9 hB9
    have hP : va_P (dC, dI) vwCl (WR a k h0 (fT (fT vi 21 s217) 22 p217) vj vF vG) H := fz_P ht hB9.1
    have hD := fz_sd hP (hB9.2.weaken (fun _ q _ h => hFc q.1 h)) rfl
    revert hw9
    refine fz_a2 ?_
    intro f17_0 f17_1
    have f17_0 : (0 < (vi 21).toInt ∧ s217 = (vi 21) ∧ p217 = (vi 22)) ∨ (¬ 0 < (vi 21).toInt ∧ s217 = 11 ∧ p217 = (vi 83)) := f17_0
    refine lv_goto (tgt := 33) hx hb dX12_stepOne_20 (by decide) ?_
    refine W.widen (k := 0) (n := 0) (by decide +kernel) (by decide +kernel) ?_
    have e9 : fT (fT (fT vi 21 s217) 22 p217) 82 (vi 82) = fT (fT vi 21 s217) 22 p217 := fT_id _ _ ((fT_ne _ _ (Nat.ne_of_beq_eq_false rfl)).trans (fT_ne _ _ (Nat.ne_of_beq_eq_false rfl)))
    have hP := wr_Pi e9 hP
    have hD := wr_Di e9 hD
    clear e9
    exact W.vret hx hb hr (fun t9_ ht hW => ⟨⟨(s217, p217, (vi 82)), rfl, by (try dsimp only); exact ⟨by omega, Or.inr f17_1⟩, by rw [ht]; exact hP, hD⟩, hS.F ht⟩) hS.2.2 dX12_stepOne_33
theorem dX12_call_0 : decode cX12_call 0 = .ok (.aload_n 0, 1) := dk_42 (by decide +kernel)
theorem dX12_call_1 : decode cX12_call 1 = .ok (.getfield 179, 3) := dk_180 (by decide +kernel)
theorem dX12_call_4 : decode cX12_call 4 = .ok (.aload_n 0, 1) := dk_42 (by decide +kernel)
theorem dX12_call_5 : decode cX12_call 5 = .ok (.getfield 647, 3) := dk_180 (by decide +kernel)
theorem dX12_call_8 : decode cX12_call 8 = .ok (.iload_n 1, 1) := dk_27 (by decide +kernel)
theorem dX12_call_9 : decode cX12_call 9 = .ok (.iastore, 1) := dk_79 (by decide +kernel)
theorem dX12_call_10 : decode cX12_call 10 = .ok (.aload_n 0, 1) := dk_42 (by decide +kernel)
theorem dX12_call_11 : decode cX12_call 11 = .ok (.getfield 182, 3) := dk_180 (by decide +kernel)
theorem dX12_call_14 : decode cX12_call 14 = .ok (.aload_n 0, 1) := dk_42 (by decide +kernel)
theorem dX12_call_15 : decode cX12_call 15 = .ok (.getfield 647, 3) := dk_180 (by decide +kernel)
theorem dX12_call_18 : decode cX12_call 18 = .ok (.iconst 0, 1) := dk_3 (by decide +kernel)
theorem dX12_call_19 : decode cX12_call 19 = .ok (.iastore, 1) := dk_79 (by decide +kernel)
theorem dX12_call_20 : decode cX12_call 20 = .ok (.aload_n 0, 1) := dk_42 (by decide +kernel)
theorem dX12_call_21 : decode cX12_call 21 = .ok (.dup, 1) := dk_89 (by decide +kernel)
theorem dX12_call_22 : decode cX12_call 22 = .ok (.getfield 647, 3) := dk_180 (by decide +kernel)
theorem dX12_call_25 : decode cX12_call 25 = .ok (.iconst 1, 1) := dk_4 (by decide +kernel)
theorem dX12_call_26 : decode cX12_call 26 = .ok (.iadd, 1) := dk_96 (by decide +kernel)
theorem dX12_call_27 : decode cX12_call 27 = .ok (.putfield 647, 3) := dk_181 (by decide +kernel)
theorem dX12_call_30 : decode cX12_call 30 = .ok (.return_, 1) := dk_177 (by decide +kernel)
def wsRX12_call : List Cond := .code yX12_call cX12_call 2 none :: ([.fieldLink RX12 179 "OptimaWorksModel" "frame" "[I", .fieldLink RX12 647 "OptimaWorksModel" "framed" "I", .fieldLink RX12 182 "OptimaWorksModel" "stage" "[I"] ++ wsX120)
theorem iwsRX12_call_in12 : ∀ w ∈ wsX120, w ∈ wsRX12_call := fun _ h => List.mem_cons_of_mem _ (List.mem_append_right _ h)
theorem gdwsRX12_call : wsRX12_call.all goodWord = true := gdC rfl (gdA (by decide +kernel : ([.fieldLink RX12 179 "OptimaWorksModel" "frame" "[I", .fieldLink RX12 647 "OptimaWorksModel" "framed" "I", .fieldLink RX12 182 "OptimaWorksModel" "stage" "[I"] : List Cond).all goodWord = true) gdwsX120)
theorem hm_r_X12_call_0 : (.fieldLink RX12 647 "OptimaWorksModel" "framed" "I" : Cond) ∈ wsRX12_call := by decide +kernel
set_option maxHeartbeats 4000000 in
set_option maxRecDepth 100000 in
/-- call(n) -/
theorem r_X12_call (l : Launch) (dC : Nat → ClassId) (dI : Nat → Nat → Nat) (a : Nat → Nat) (k : Nat → ClassId) (h0 : Nat) (vi : Nat → Int32) (vj : Nat → Int64) (vF : Nat → Nat → Int32) (vG : Nat → Nat → Int64) (nv : Int32) (fr : Nat) (hfr9 : vi 89 = nI fr) (hfr4 : fr < 4300) (sz : Nat) : Met l yX12_call wsRX12_call ({ frames := 0, cells := 0, slots := 0, locals := 0 }) (va_Pc [.ref h0, .int nv] (fun U => U.heap.size = sz ∧ va_P (dC, dI) vwCl (WR a k h0 vi vj vF vG) U.heap ∧ va_K (dC, dI) vwCl (tX12 k) U ∧ va_D (fun _ => True) (WR a k h0 vi vj vF vG))) (va_Qv (fun (u : Unit) => True) (fun (u : Unit) t => va_P (dC, dI) vwCl (WR a k h0 (fT vi 89 (nI (fr + 1))) vj (fT (fT vF 52 (upd (vF 52) (nI fr).toNatClampNeg nv)) 53 (upd (vF 53) (nI fr).toNatClampNeg 0)) vG) t.heap ∧ va_D (va_A (WR a k h0 vi vj vF vG) sz) (WR a k h0 (fT vi 89 (nI (fr + 1))) vj (fT (fT vF 52 (upd (vF 52) (nI fr).toNatClampNeg nv)) 53 (upd (vF 53) (nI fr).toNatClampNeg 0)) vG)) (va_A (WR a k h0 vi vj vF vG) sz)) 0 0 (va_A (WR a k h0 vi vj vF vG) sz) := by
  refine Met.ofW (cc := cX12_call) (maxL := 2) (ret := none) (by decide) rfl ?_
  intro p e s m args below meth c s₁ B hml hv
  obtain ⟨rfl, hsz, hP, hK, hD0⟩ := hv
  have hx := B.exec
  have hb := B.bytes
  have hr := B.returns
  have hts := atoms_spec (ws := wsRX12_call) B.pre
  have hown : s.vm.findClass RX12 = some m.cls := findClass_of_methodNamed B.named
  have hlocks := B.notSynchronized
  subst hsz
  have hD := hD0.self (sz := s.heap.size)
  generalize hAe : va_A (WR a k h0 vi vj vF vG) s.heap.size = A at hD ⊢
  have hA : ∀ q : Nat, s.heap.size ≤ q → A q := fun q h => by rw [← hAe]; exact Or.inr h
  have hS : va_S A s.heap s.heap [] := va_S.rf
  have hl := lv_entry ([.ref h0, .int nv]) (n := 2) (Nat.le_of_ble_eq_true rfl)
  rw [lg_entry_eq]
  generalize (lg_sl ([.ref h0, .int nv]) ++ List.replicate (2 - (lg_sl ([.ref h0, .int nv])).length) Slot.unset).toArray = ls at hl ⊢
  have hl : lv_has ls 2 [(0, .ref h0), (1, .int nv)] := hl
  refine lv_aload_n hx hb dX12_call_0 rfl (lv_at hl 0 rfl) ?_
  refine va_get (D := (dC, dI)) (ci := 12) (v := .ref (a 52)) (C := RX12) (T := TX12) (N := 163) (fs := fM (vS a vi vj)) hx hb hts iwsRX12_call_in12 hown hK hP 0 rfl rfl 85 (by decide) (hts (.fieldLink RX12 179 "OptimaWorksModel" "frame" "[I") (by decide +kernel)) (fun _ h9 => h9) rfl dX12_call_1 ?_
  refine lv_aload_n hx hb dX12_call_4 rfl (lv_at hl 0 rfl) ?_
  refine va_get (D := (dC, dI)) (ci := 12) (v := .int (vi 89)) (C := RX12) (T := TX12) (N := 163) (fs := fM (vS a vi vj)) hx hb hts iwsRX12_call_in12 hown hK hP 0 rfl rfl 89 (by decide) (hts _ hm_r_X12_call_0) (fun _ h9 => h9) rfl dX12_call_5 ?_
  refine lv_topi (fun y1 hy1 => ?_)
  obtain rfl : (nI fr) = y1 := (hy1.trans (hfr9)).symm
  refine lv_iload_n hx hb dX12_call_8 rfl (lv_at hl 1 rfl) ?_
  refine va_iast (cA := k 52) (n := 4300) (f := (vF 52)) hx hb hK hP hD hS 53 52 (WR_get 52 (by decide)) (TR_get 52 (by decide)) (vp_in_nI (show fr < 4300 by omega) (by omega)) dX12_call_9 (fun H locs hP hD hS => ?_)
  have hP : va_P (dC, dI) vwCl (WR a k h0 vi vj (fT vF 52 (upd (vF 52) ((nI fr)).toNatClampNeg nv)) vG) H := fz_w (WR_F 52 (by decide) _ rfl) hP
  have hD : va_D A (WR a k h0 vi vj (fT vF 52 (upd (vF 52) ((nI fr)).toNatClampNeg nv)) vG) := fz_wD (WR_F 52 (by decide) _ rfl) hD
  refine lv_aload_n hx hb dX12_call_10 rfl (lv_at hl 0 rfl) ?_
  refine va_get (D := (dC, dI)) (ci := 12) (v := .ref (a 53)) (C := RX12) (T := TX12) (N := 163) (fs := fM (vS a vi vj)) hx hb hts iwsRX12_call_in12 hown hK hP 0 rfl rfl 86 (by decide) (hts (.fieldLink RX12 182 "OptimaWorksModel" "stage" "[I") (by decide +kernel)) (fun _ h9 => h9) rfl dX12_call_11 ?_
  refine lv_aload_n hx hb dX12_call_14 rfl (lv_at hl 0 rfl) ?_
  refine va_get (D := (dC, dI)) (ci := 12) (v := .int (vi 89)) (C := RX12) (T := TX12) (N := 163) (fs := fM (vS a vi vj)) hx hb hts iwsRX12_call_in12 hown hK hP 0 rfl rfl 89 (by decide) (hts _ hm_r_X12_call_0) (fun _ h9 => h9) rfl dX12_call_15 ?_
  refine lv_topi (fun y2 hy2 => ?_)
  obtain rfl : (nI fr) = y2 := (hy2.trans (hfr9)).symm
  refine lv_iconst (v := 0) hx hb dX12_call_18 (by decide) ?_
  refine va_iast (cA := k 53) (n := 4300) (f := (vF 53)) hx hb hK hP hD hS 54 53 (WR_get 53 (by decide)) (TR_get 53 (by decide)) (vp_in_nI (show fr < 4300 by omega) (by omega)) dX12_call_19 (fun H locs hP hD hS => ?_)
  have hP : va_P (dC, dI) vwCl (WR a k h0 vi vj (fT (fT vF 52 (upd (vF 52) ((nI fr)).toNatClampNeg nv)) 53 (upd (vF 53) ((nI fr)).toNatClampNeg 0)) vG) H := fz_w (WR_F 53 (by decide) _ rfl) hP
  have hD : va_D A (WR a k h0 vi vj (fT (fT vF 52 (upd (vF 52) ((nI fr)).toNatClampNeg nv)) 53 (upd (vF 53) ((nI fr)).toNatClampNeg 0)) vG) := fz_wD (WR_F 53 (by decide) _ rfl) hD
  refine lv_aload_n hx hb dX12_call_20 rfl (lv_at hl 0 rfl) ?_
  refine lv_dup hx hb dX12_call_21 rfl ?_
  refine va_get (D := (dC, dI)) (ci := 12) (v := .int (vi 89)) (C := RX12) (T := TX12) (N := 163) (fs := fM (vS a vi vj)) hx hb hts iwsRX12_call_in12 hown hK hP 0 rfl rfl 89 (by decide) (hts _ hm_r_X12_call_0) (fun _ h9 => h9) rfl dX12_call_22 ?_
  refine lv_topi (fun y3 hy3 => ?_)
  obtain rfl : (nI fr) = y3 := (hy3.trans (hfr9)).symm
  refine lv_iconst (v := 1) hx hb dX12_call_25 (by decide) ?_
  refine lv_iadd hx hb dX12_call_26 ?_
  refine lv_topi (fun y4 hy4 => ?_)
  obtain rfl : (nI (fr + 1)) = y4 := (hy4.trans (nI_add fr 1)).symm
  refine va_put (D := (dC, dI)) (ci := 12) (v := .int (nI (fr + 1))) (ty := .int) (C := RX12) (T := TX12) (N := 163) (fs := fM (vS a vi vj)) hx hb hts iwsRX12_call_in12 tyX12 tyX12_ok nmX12 hown hK hP hD hS 0 rfl rfl 89 (by decide) (hts _ hm_r_X12_call_0) (fun _ h9 => h9) rfl (by decide +kernel) rfl rfl (Nat.le_of_ble_eq_true rfl) dX12_call_27 (fun H locs hP hD hS => ?_)
  have hP : va_P (dC, dI) vwCl (WR a k h0 (fT vi 89 (nI (fr + 1))) vj (fT (fT vF 52 (upd (vF 52) ((nI fr)).toNatClampNeg nv)) 53 (upd (vF 53) ((nI fr)).toNatClampNeg 0)) vG) H := fz_w (WR_i 89 _ rfl) hP
  have hD : va_D A (WR a k h0 (fT vi 89 (nI (fr + 1))) vj (fT (fT vF 52 (upd (vF 52) ((nI fr)).toNatClampNeg nv)) 53 (upd (vF 53) ((nI fr)).toNatClampNeg 0)) vG) := fz_wD (WR_i 89 _ rfl) hD
  refine W.widen (k := 0) (n := 0) (by decide +kernel) (by decide +kernel) ?_
  have e9 : fT (fT vF 52 (upd (vF 52) (nI fr).toNatClampNeg nv)) 53 (upd (vF 53) (nI fr).toNatClampNeg 0) = fT (fT vF 52 (upd (vF 52) ((nI fr)).toNatClampNeg nv)) 53 (upd (vF 53) ((nI fr)).toNatClampNeg 0) := Eq.trans (mv_1 rfl) (Eq.trans (congrArg (fT _ 52) (show upd (vF 52) (nI fr).toNatClampNeg nv = upd (vF 52) ((nI fr)).toNatClampNeg nv from (by first | with_reducible rfl | with_reducible assumption | (symm; with_reducible assumption) | rfl | assumption | (symm; assumption) | (subst_vars; rfl)))) (Eq.trans (mv_1 rfl) (congrArg (fT _ 53) (show upd (vF 53) (nI fr).toNatClampNeg 0 = upd (vF 53) ((nI fr)).toNatClampNeg 0 from (by first | with_reducible rfl | with_reducible assumption | (symm; with_reducible assumption) | rfl | assumption | (symm; assumption) | (subst_vars; rfl))))))
  have hP := wr_PF e9 hP
  have hD := wr_DF e9 hD
  clear e9
  exact W.vret hx hb hr (fun t9_ ht hW => ⟨⟨(), rfl, trivial, by rw [ht]; exact hP, hD⟩, hS.F ht⟩) hS.2.2 dX12_call_30
theorem dX12_membersOf_0 : decode cX12_membersOf 0 = .ok (.aload_n 0, 1) := dk_42 (by decide +kernel)
theorem dX12_membersOf_1 : decode cX12_membersOf 1 = .ok (.getfield 74, 3) := dk_180 (by decide +kernel)
theorem dX12_membersOf_4 : decode cX12_membersOf 4 = .ok (.aload_n 0, 1) := dk_42 (by decide +kernel)
theorem dX12_membersOf_5 : decode cX12_membersOf 5 = .ok (.getfield 131, 3) := dk_180 (by decide +kernel)
theorem dX12_membersOf_8 : decode cX12_membersOf 8 = .ok (.iload_n 1, 1) := dk_27 (by decide +kernel)
theorem dX12_membersOf_9 : decode cX12_membersOf 9 = .ok (.iaload, 1) := dk_46 (by decide +kernel)
theorem dX12_membersOf_10 : decode cX12_membersOf 10 = .ok (.iaload, 1) := dk_46 (by decide +kernel)
theorem dX12_membersOf_11 : decode cX12_membersOf 11 = .ok (.aload_n 0, 1) := dk_42 (by decide +kernel)
theorem dX12_membersOf_12 : decode cX12_membersOf 12 = .ok (.getfield 134, 3) := dk_180 (by decide +kernel)
theorem dX12_membersOf_15 : decode cX12_membersOf 15 = .ok (.iload_n 1, 1) := dk_27 (by decide +kernel)
theorem dX12_membersOf_16 : decode cX12_membersOf 16 = .ok (.iaload, 1) := dk_46 (by decide +kernel)
theorem dX12_membersOf_17 : decode cX12_membersOf 17 = .ok (.iconst (-1), 1) := dk_2 (by decide +kernel)
theorem dX12_membersOf_18 : decode cX12_membersOf 18 = .ok (.if_icmp .ne 7, 3) := dk_160 (by decide +kernel)
theorem dX12_membersOf_21 : decode cX12_membersOf 21 = .ok (.iconst 1, 1) := dk_4 (by decide +kernel)
theorem dX12_membersOf_22 : decode cX12_membersOf 22 = .ok (.goto 14, 3) := dk_167 (by decide +kernel)
theorem dX12_membersOf_25 : decode cX12_membersOf 25 = .ok (.aload_n 0, 1) := dk_42 (by decide +kernel)
theorem dX12_membersOf_26 : decode cX12_membersOf 26 = .ok (.getfield 74, 3) := dk_180 (by decide +kernel)
theorem dX12_membersOf_29 : decode cX12_membersOf 29 = .ok (.aload_n 0, 1) := dk_42 (by decide +kernel)
theorem dX12_membersOf_30 : decode cX12_membersOf 30 = .ok (.getfield 134, 3) := dk_180 (by decide +kernel)
theorem dX12_membersOf_33 : decode cX12_membersOf 33 = .ok (.iload_n 1, 1) := dk_27 (by decide +kernel)
theorem dX12_membersOf_34 : decode cX12_membersOf 34 = .ok (.iaload, 1) := dk_46 (by decide +kernel)
theorem dX12_membersOf_35 : decode cX12_membersOf 35 = .ok (.iaload, 1) := dk_46 (by decide +kernel)
theorem dX12_membersOf_36 : decode cX12_membersOf 36 = .ok (.imul, 1) := dk_104 (by decide +kernel)
theorem dX12_membersOf_37 : decode cX12_membersOf 37 = .ok (.ireturn, 1) := dk_172 (by decide +kernel)
def wsRX12_membersOf : List Cond := .code yX12_membersOf cX12_membersOf 2 (some .int) :: ([.fieldLink RX12 74 "OptimaWorksModel" "setMany" "[I", .fieldLink RX12 131 "OptimaWorksModel" "bindOne" "[I", .fieldLink RX12 134 "OptimaWorksModel" "bindTwo" "[I"] ++ wsX120)
theorem iwsRX12_membersOf_in12 : ∀ w ∈ wsX120, w ∈ wsRX12_membersOf := fun _ h => List.mem_cons_of_mem _ (List.mem_append_right _ h)
theorem gdwsRX12_membersOf : wsRX12_membersOf.all goodWord = true := gdC rfl (gdA (by decide +kernel : ([.fieldLink RX12 74 "OptimaWorksModel" "setMany" "[I", .fieldLink RX12 131 "OptimaWorksModel" "bindOne" "[I", .fieldLink RX12 134 "OptimaWorksModel" "bindTwo" "[I"] : List Cond).all goodWord = true) gdwsX120)
theorem hm_r_X12_membersOf_0 : (.fieldLink RX12 74 "OptimaWorksModel" "setMany" "[I" : Cond) ∈ wsRX12_membersOf := by decide +kernel
theorem hm_r_X12_membersOf_1 : (.fieldLink RX12 134 "OptimaWorksModel" "bindTwo" "[I" : Cond) ∈ wsRX12_membersOf := by decide +kernel
set_option maxHeartbeats 4000000 in
set_option maxRecDepth 100000 in
/-- membersOf(b) -/
theorem r_X12_membersOf (l : Launch) (dC : Nat → ClassId) (dI : Nat → Nat → Nat) (a : Nat → Nat) (k : Nat → ClassId) (h0 : Nat) (vi : Nat → Int32) (vj : Nat → Int64) (vF : Nat → Nat → Int32) (vG : Nat → Nat → Int64) (bN : Nat) (se : Nat) (hbN : bN < 900) (hBn : BnO (vF 36) (vF 37) (vF 38) se bN) (hse44 : se ≤ 44) (hSe : SeO (vF 16) (vF 17) se) (sz : Nat) : Met l yX12_membersOf wsRX12_membersOf ({ frames := 0, cells := 0, slots := 0, locals := 0 }) (va_Pc [.ref h0, .int (nI bN)] (fun U => U.heap.size = sz ∧ va_P (dC, dI) vwCl (WR a k h0 vi vj vF vG) U.heap ∧ va_K (dC, dI) vwCl (tX12 k) U ∧ va_D (fun _ => True) (WR a k h0 vi vj vF vG))) (va_Qi (fun (r : Int32) (u : Nat) => r = (nI u) ∧ (1 ≤ u ∧ u ≤ 144)) (fun (u : Nat) t => va_P (dC, dI) vwCl (WR a k h0 vi vj vF vG) t.heap ∧ va_D (va_A (WR a k h0 vi vj vF vG) sz) (WR a k h0 vi vj vF vG)) (va_A (WR a k h0 vi vj vF vG) sz)) 0 0 (va_A (WR a k h0 vi vj vF vG) sz) := by
  refine Met.ofW (cc := cX12_membersOf) (maxL := 2) (ret := (some .int)) (by decide) rfl ?_
  intro p e s m args below meth c s₁ B hml hv
  obtain ⟨rfl, hsz, hP, hK, hD0⟩ := hv
  have hx := B.exec
  have hb := B.bytes
  have hr := B.returns
  have hts := atoms_spec (ws := wsRX12_membersOf) B.pre
  have hown : s.vm.findClass RX12 = some m.cls := findClass_of_methodNamed B.named
  have hlocks := B.notSynchronized
  subst hsz
  have hD := hD0.self (sz := s.heap.size)
  generalize hAe : va_A (WR a k h0 vi vj vF vG) s.heap.size = A at hD ⊢
  have hA : ∀ q : Nat, s.heap.size ≤ q → A q := fun q h => by rw [← hAe]; exact Or.inr h
  have hS : va_S A s.heap s.heap [] := va_S.rf
  have hl := lv_entry ([.ref h0, .int (nI bN)]) (n := 2) (Nat.le_of_ble_eq_true rfl)
  rw [lg_entry_eq]
  generalize (lg_sl ([.ref h0, .int (nI bN)]) ++ List.replicate (2 - (lg_sl ([.ref h0, .int (nI bN)])).length) Slot.unset).toArray = ls at hl ⊢
  have hl : lv_has ls 2 [(0, .ref h0), (1, .int (nI bN))] := hl
  obtain ⟨⟨o1, ho1, eo1⟩, hb2, xB, hxB, exB⟩ := hBn
  obtain ⟨⟨m1, hm1, hm2, em1⟩, hl1⟩ := hSe o1 ho1
  refine lv_aload_n hx hb dX12_membersOf_0 rfl (lv_at hl 0 rfl) ?_
  refine va_get (D := (dC, dI)) (ci := 12) (v := .ref (a 17)) (C := RX12) (T := TX12) (N := 163) (fs := fM (vS a vi vj)) hx hb hts iwsRX12_membersOf_in12 hown hK hP 0 rfl rfl 40 (by decide) (hts _ hm_r_X12_membersOf_0) (fun _ h9 => h9) rfl dX12_membersOf_1 ?_
  refine lv_aload_n hx hb dX12_membersOf_4 rfl (lv_at hl 0 rfl) ?_
  refine va_get (D := (dC, dI)) (ci := 12) (v := .ref (a 36)) (C := RX12) (T := TX12) (N := 163) (fs := fM (vS a vi vj)) hx hb hts iwsRX12_membersOf_in12 hown hK hP 0 rfl rfl 61 (by decide) (hts (.fieldLink RX12 131 "OptimaWorksModel" "bindOne" "[I") (by decide +kernel)) (fun _ h9 => h9) rfl dX12_membersOf_5 ?_
  refine lv_iload_n hx hb dX12_membersOf_8 rfl (lv_at hl 1 rfl) ?_
  refine va_iald (cA := k 36) (n := 900) (f := (vF 36)) hx hb hK hP 37 36 (WR_get 36 (by decide)) (TR_get 36 (by decide)) (vp_in_nI (show bN < 900 by omega) (by omega)) dX12_membersOf_9 ?_
  refine lv_topi (fun y1 hy1 => ?_)
  obtain rfl : ((vF 36) bN) = y1 := (hy1.trans (by rw [nI_clamp (by omega)])).symm
  refine lv_topi (fun y2 hy2 => ?_)
  obtain rfl : (nI o1) = y2 := (hy2.trans (eo1)).symm
  refine va_iald (cA := k 17) (n := 44) (f := (vF 17)) hx hb hK hP 18 17 (WR_get 17 (by decide)) (TR_get 17 (by decide)) (vp_in_nI (show o1 < 44 by omega) (by omega)) dX12_membersOf_10 ?_
  refine lv_topi (fun y3 hy3 => ?_)
  obtain rfl : ((vF 17) o1) = y3 := (hy3.trans (by rw [nI_clamp (by omega)])).symm
  refine lv_topi (fun y4 hy4 => ?_)
  obtain rfl : (nI m1) = y4 := (hy4.trans (em1)).symm
  refine lv_aload_n hx hb dX12_membersOf_11 rfl (lv_at hl 0 rfl) ?_
  refine va_get (D := (dC, dI)) (ci := 12) (v := .ref (a 37)) (C := RX12) (T := TX12) (N := 163) (fs := fM (vS a vi vj)) hx hb hts iwsRX12_membersOf_in12 hown hK hP 0 rfl rfl 62 (by decide) (hts _ hm_r_X12_membersOf_1) (fun _ h9 => h9) rfl dX12_membersOf_12 ?_
  refine lv_iload_n hx hb dX12_membersOf_15 rfl (lv_at hl 1 rfl) ?_
  refine va_iald (cA := k 37) (n := 900) (f := (vF 37)) hx hb hK hP 38 37 (WR_get 37 (by decide)) (TR_get 37 (by decide)) (vp_in_nI (show bN < 900 by omega) (by omega)) dX12_membersOf_16 ?_
  refine lv_topi (fun y5 hy5 => ?_)
  obtain rfl : ((vF 37) bN) = y5 := (hy5.trans (by rw [nI_clamp (by omega)])).symm
  refine lv_iconst (v := (-1)) hx hb dX12_membersOf_17 (by decide) ?_
  refine lv_icmp_ne (tgt := 25) hx hb dX12_membersOf_18 (by decide) (fun c_18 => ?_) (fun c_18 => ?_)
  · have t_18 : (((vF 37) bN)).toInt ≠ -1 := toI_ne c_18 rfl (by decide)
    obtain ⟨o2, ho2, eo2⟩ := hb2.resolve_left c_18
    obtain ⟨⟨m2, hn1, hn2, em2⟩, hl2⟩ := hSe o2 ho2
    refine lv_aload_n hx hb dX12_membersOf_25 rfl (lv_at hl 0 rfl) ?_
    refine va_get (D := (dC, dI)) (ci := 12) (v := .ref (a 17)) (C := RX12) (T := TX12) (N := 163) (fs := fM (vS a vi vj)) hx hb hts iwsRX12_membersOf_in12 hown hK hP 0 rfl rfl 40 (by decide) (hts _ hm_r_X12_membersOf_0) (fun _ h9 => h9) rfl dX12_membersOf_26 ?_
    refine lv_aload_n hx hb dX12_membersOf_29 rfl (lv_at hl 0 rfl) ?_
    refine va_get (D := (dC, dI)) (ci := 12) (v := .ref (a 37)) (C := RX12) (T := TX12) (N := 163) (fs := fM (vS a vi vj)) hx hb hts iwsRX12_membersOf_in12 hown hK hP 0 rfl rfl 62 (by decide) (hts _ hm_r_X12_membersOf_1) (fun _ h9 => h9) rfl dX12_membersOf_30 ?_
    refine lv_iload_n hx hb dX12_membersOf_33 rfl (lv_at hl 1 rfl) ?_
    refine va_iald (cA := k 37) (n := 900) (f := (vF 37)) hx hb hK hP 38 37 (WR_get 37 (by decide)) (TR_get 37 (by decide)) (vp_in_nI (show bN < 900 by omega) (by omega)) dX12_membersOf_34 ?_
    refine lv_topi (fun y6 hy6 => ?_)
    obtain rfl : ((vF 37) bN) = y6 := (hy6.trans (by rw [nI_clamp (by omega)])).symm
    refine lv_topi (fun y7 hy7 => ?_)
    obtain rfl : (nI o2) = y7 := (hy7.trans (eo2)).symm
    refine va_iald (cA := k 17) (n := 44) (f := (vF 17)) hx hb hK hP 18 17 (WR_get 17 (by decide)) (TR_get 17 (by decide)) (vp_in_nI (show o2 < 44 by omega) (by omega)) dX12_membersOf_35 ?_
    refine lv_topi (fun y8 hy8 => ?_)
    obtain rfl : ((vF 17) o2) = y8 := (hy8.trans (by rw [nI_clamp (by omega)])).symm
    refine lv_topi (fun y9 hy9 => ?_)
    obtain rfl : (nI m2) = y9 := (hy9.trans (em2)).symm
    refine lv_imul hx hb dX12_membersOf_36 ?_
    refine lv_topi (fun y10 hy10 => ?_)
    obtain rfl : (nI (m1 * m2)) = y10 := (hy10.trans (pk_mul m1 m2)).symm
    refine W.widen (k := 0) (n := 0) (by decide +kernel) (by decide +kernel) ?_
    exact W.iret (v := (nI (m1 * m2))) hx hb hr (fun t9_ ht hW => ⟨⟨(nI (m1 * m2)), (m1 * m2), rfl, by (try dsimp only); exact ⟨rfl, by (have h1 : 1 * 1 ≤ m1 * m2 := Nat.mul_le_mul hm1 hn1); (have h2 : m1 * m2 ≤ 12 * 12 := Nat.mul_le_mul hm2 hn2); omega⟩, by rw [ht]; exact hP, hD⟩, hS.F ht⟩) hS.2.2 dX12_membersOf_37
  · have t_18 : (((vF 37) bN)).toInt = -1 := toI_nne c_18 rfl (by decide)
    refine lv_iconst (v := 1) hx hb dX12_membersOf_21 (by decide) ?_
    refine lv_goto (tgt := 36) hx hb dX12_membersOf_22 (by decide) ?_
    refine lv_imul hx hb dX12_membersOf_36 ?_
    refine lv_topi (fun y11 hy11 => ?_)
    obtain rfl : (nI (m1 * 1)) = y11 := (hy11.trans (pk_mul m1 1)).symm
    refine W.widen (k := 0) (n := 0) (by decide +kernel) (by decide +kernel) ?_
    exact W.iret (v := (nI (m1 * 1))) hx hb hr (fun t9_ ht hW => ⟨⟨(nI (m1 * 1)), (m1 * 1), rfl, by (try dsimp only); exact ⟨rfl, by omega⟩, by rw [ht]; exact hP, hD⟩, hS.F ht⟩) hS.2.2 dX12_membersOf_37
theorem dX12_bind_0 : decode cX12_bind 0 = .ok (.aload_n 0, 1) := dk_42 (by decide +kernel)
theorem dX12_bind_1 : decode cX12_bind 1 = .ok (.getfield 134, 3) := dk_180 (by decide +kernel)
theorem dX12_bind_4 : decode cX12_bind 4 = .ok (.iload_n 1, 1) := dk_27 (by decide +kernel)
theorem dX12_bind_5 : decode cX12_bind 5 = .ok (.iaload, 1) := dk_46 (by decide +kernel)
theorem dX12_bind_6 : decode cX12_bind 6 = .ok (.iconst (-1), 1) := dk_2 (by decide +kernel)
theorem dX12_bind_7 : decode cX12_bind 7 = .ok (.if_icmp .ne 7, 3) := dk_160 (by decide +kernel)
theorem dX12_bind_10 : decode cX12_bind 10 = .ok (.iconst 1, 1) := dk_4 (by decide +kernel)
theorem dX12_bind_11 : decode cX12_bind 11 = .ok (.goto 14, 3) := dk_167 (by decide +kernel)
theorem dX12_bind_14 : decode cX12_bind 14 = .ok (.aload_n 0, 1) := dk_42 (by decide +kernel)
theorem dX12_bind_15 : decode cX12_bind 15 = .ok (.getfield 74, 3) := dk_180 (by decide +kernel)
theorem dX12_bind_18 : decode cX12_bind 18 = .ok (.aload_n 0, 1) := dk_42 (by decide +kernel)
theorem dX12_bind_19 : decode cX12_bind 19 = .ok (.getfield 134, 3) := dk_180 (by decide +kernel)
theorem dX12_bind_22 : decode cX12_bind 22 = .ok (.iload_n 1, 1) := dk_27 (by decide +kernel)
theorem dX12_bind_23 : decode cX12_bind 23 = .ok (.iaload, 1) := dk_46 (by decide +kernel)
theorem dX12_bind_24 : decode cX12_bind 24 = .ok (.iaload, 1) := dk_46 (by decide +kernel)
theorem dX12_bind_25 : decode cX12_bind 25 = .ok (.istore_n 3, 1) := dk_62 (by decide +kernel)
theorem dX12_bind_26 : decode cX12_bind 26 = .ok (.aload_n 0, 1) := dk_42 (by decide +kernel)
theorem dX12_bind_27 : decode cX12_bind 27 = .ok (.getfield 176, 3) := dk_180 (by decide +kernel)
theorem dX12_bind_30 : decode cX12_bind 30 = .ok (.aload_n 0, 1) := dk_42 (by decide +kernel)
theorem dX12_bind_31 : decode cX12_bind 31 = .ok (.getfield 137, 3) := dk_180 (by decide +kernel)
theorem dX12_bind_34 : decode cX12_bind 34 = .ok (.iload_n 1, 1) := dk_27 (by decide +kernel)
theorem dX12_bind_35 : decode cX12_bind 35 = .ok (.iaload, 1) := dk_46 (by decide +kernel)
theorem dX12_bind_36 : decode cX12_bind 36 = .ok (.aload_n 0, 1) := dk_42 (by decide +kernel)
theorem dX12_bind_37 : decode cX12_bind 37 = .ok (.getfield 71, 3) := dk_180 (by decide +kernel)
theorem dX12_bind_40 : decode cX12_bind 40 = .ok (.aload_n 0, 1) := dk_42 (by decide +kernel)
theorem dX12_bind_41 : decode cX12_bind 41 = .ok (.getfield 131, 3) := dk_180 (by decide +kernel)
theorem dX12_bind_44 : decode cX12_bind 44 = .ok (.iload_n 1, 1) := dk_27 (by decide +kernel)
theorem dX12_bind_45 : decode cX12_bind 45 = .ok (.iaload, 1) := dk_46 (by decide +kernel)
theorem dX12_bind_46 : decode cX12_bind 46 = .ok (.iaload, 1) := dk_46 (by decide +kernel)
theorem dX12_bind_47 : decode cX12_bind 47 = .ok (.iload_n 2, 1) := dk_28 (by decide +kernel)
theorem dX12_bind_48 : decode cX12_bind 48 = .ok (.iload_n 3, 1) := dk_29 (by decide +kernel)
theorem dX12_bind_49 : decode cX12_bind 49 = .ok (.idiv, 1) := dk_108 (by decide +kernel)
theorem dX12_bind_50 : decode cX12_bind 50 = .ok (.iadd, 1) := dk_96 (by decide +kernel)
theorem dX12_bind_51 : decode cX12_bind 51 = .ok (.iastore, 1) := dk_79 (by decide +kernel)
theorem dX12_bind_52 : decode cX12_bind 52 = .ok (.aload_n 0, 1) := dk_42 (by decide +kernel)
theorem dX12_bind_53 : decode cX12_bind 53 = .ok (.getfield 134, 3) := dk_180 (by decide +kernel)
theorem dX12_bind_56 : decode cX12_bind 56 = .ok (.iload_n 1, 1) := dk_27 (by decide +kernel)
theorem dX12_bind_57 : decode cX12_bind 57 = .ok (.iaload, 1) := dk_46 (by decide +kernel)
theorem dX12_bind_58 : decode cX12_bind 58 = .ok (.iconst (-1), 1) := dk_2 (by decide +kernel)
theorem dX12_bind_59 : decode cX12_bind 59 = .ok (.if_icmp .eq 31, 3) := dk_159 (by decide +kernel)
theorem dX12_bind_62 : decode cX12_bind 62 = .ok (.aload_n 0, 1) := dk_42 (by decide +kernel)
theorem dX12_bind_63 : decode cX12_bind 63 = .ok (.getfield 176, 3) := dk_180 (by decide +kernel)
theorem dX12_bind_66 : decode cX12_bind 66 = .ok (.aload_n 0, 1) := dk_42 (by decide +kernel)
theorem dX12_bind_67 : decode cX12_bind 67 = .ok (.getfield 137, 3) := dk_180 (by decide +kernel)
theorem dX12_bind_70 : decode cX12_bind 70 = .ok (.iload_n 1, 1) := dk_27 (by decide +kernel)
theorem dX12_bind_71 : decode cX12_bind 71 = .ok (.iaload, 1) := dk_46 (by decide +kernel)
theorem dX12_bind_72 : decode cX12_bind 72 = .ok (.iconst 1, 1) := dk_4 (by decide +kernel)
theorem dX12_bind_73 : decode cX12_bind 73 = .ok (.iadd, 1) := dk_96 (by decide +kernel)
theorem dX12_bind_74 : decode cX12_bind 74 = .ok (.aload_n 0, 1) := dk_42 (by decide +kernel)
theorem dX12_bind_75 : decode cX12_bind 75 = .ok (.getfield 71, 3) := dk_180 (by decide +kernel)
theorem dX12_bind_78 : decode cX12_bind 78 = .ok (.aload_n 0, 1) := dk_42 (by decide +kernel)
theorem dX12_bind_79 : decode cX12_bind 79 = .ok (.getfield 134, 3) := dk_180 (by decide +kernel)
theorem dX12_bind_82 : decode cX12_bind 82 = .ok (.iload_n 1, 1) := dk_27 (by decide +kernel)
theorem dX12_bind_83 : decode cX12_bind 83 = .ok (.iaload, 1) := dk_46 (by decide +kernel)
theorem dX12_bind_84 : decode cX12_bind 84 = .ok (.iaload, 1) := dk_46 (by decide +kernel)
theorem dX12_bind_85 : decode cX12_bind 85 = .ok (.iload_n 2, 1) := dk_28 (by decide +kernel)
theorem dX12_bind_86 : decode cX12_bind 86 = .ok (.iload_n 3, 1) := dk_29 (by decide +kernel)
theorem dX12_bind_87 : decode cX12_bind 87 = .ok (.irem, 1) := dk_112 (by decide +kernel)
theorem dX12_bind_88 : decode cX12_bind 88 = .ok (.iadd, 1) := dk_96 (by decide +kernel)
theorem dX12_bind_89 : decode cX12_bind 89 = .ok (.iastore, 1) := dk_79 (by decide +kernel)
theorem dX12_bind_90 : decode cX12_bind 90 = .ok (.return_, 1) := dk_177 (by decide +kernel)
def wsRX12_bind : List Cond := .code yX12_bind cX12_bind 4 none :: ([.fieldLink RX12 134 "OptimaWorksModel" "bindTwo" "[I", .fieldLink RX12 74 "OptimaWorksModel" "setMany" "[I", .fieldLink RX12 176 "OptimaWorksModel" "env" "[I", .fieldLink RX12 137 "OptimaWorksModel" "bindAt" "[I", .fieldLink RX12 71 "OptimaWorksModel" "setLow" "[I", .fieldLink RX12 131 "OptimaWorksModel" "bindOne" "[I"] ++ wsX120)
theorem iwsRX12_bind_in12 : ∀ w ∈ wsX120, w ∈ wsRX12_bind := fun _ h => List.mem_cons_of_mem _ (List.mem_append_right _ h)
theorem gdwsRX12_bind : wsRX12_bind.all goodWord = true := gdC rfl (gdA (by decide +kernel : ([.fieldLink RX12 134 "OptimaWorksModel" "bindTwo" "[I", .fieldLink RX12 74 "OptimaWorksModel" "setMany" "[I", .fieldLink RX12 176 "OptimaWorksModel" "env" "[I", .fieldLink RX12 137 "OptimaWorksModel" "bindAt" "[I", .fieldLink RX12 71 "OptimaWorksModel" "setLow" "[I", .fieldLink RX12 131 "OptimaWorksModel" "bindOne" "[I"] : List Cond).all goodWord = true) gdwsX120)
theorem hm_r_X12_bind_0 : (.fieldLink RX12 134 "OptimaWorksModel" "bindTwo" "[I" : Cond) ∈ wsRX12_bind := by decide +kernel
theorem hm_r_X12_bind_1 : (.fieldLink RX12 176 "OptimaWorksModel" "env" "[I" : Cond) ∈ wsRX12_bind := by decide +kernel
theorem hm_r_X12_bind_2 : (.fieldLink RX12 137 "OptimaWorksModel" "bindAt" "[I" : Cond) ∈ wsRX12_bind := by decide +kernel
theorem hm_r_X12_bind_3 : (.fieldLink RX12 71 "OptimaWorksModel" "setLow" "[I" : Cond) ∈ wsRX12_bind := by decide +kernel
set_option maxHeartbeats 4000000 in
set_option maxRecDepth 100000 in
/-- bind(b, k) -/
theorem r_X12_bind (l : Launch) (dC : Nat → ClassId) (dI : Nat → Nat → Nat) (a : Nat → Nat) (k : Nat → ClassId) (h0 : Nat) (vi : Nat → Int32) (vj : Nat → Int64) (vF : Nat → Nat → Int32) (vG : Nat → Nat → Int64) (bN : Nat) (kN : Nat) (se : Nat) (hbN : bN < 900) (hBn : BnO (vF 36) (vF 37) (vF 38) se bN) (hse44 : se ≤ 44) (hSe : SeO (vF 16) (vF 17) se) (hkN : kN < 144) (hEn : EnO (vF 51)) (sz : Nat) : Met l yX12_bind wsRX12_bind ({ frames := 0, cells := 0, slots := 0, locals := 0 }) (va_Pc [.ref h0, .int (nI bN), .int (nI kN)] (fun U => U.heap.size = sz ∧ va_P (dC, dI) vwCl (WR a k h0 vi vj vF vG) U.heap ∧ va_K (dC, dI) vwCl (tX12 k) U ∧ va_D (fun _ => True) (WR a k h0 vi vj vF vG))) (va_Qv (fun (u : Nat → Int32) => (EnO u)) (fun (u : Nat → Int32) t => va_P (dC, dI) vwCl (WR a k h0 vi vj (fT vF 51 u) vG) t.heap ∧ va_D (va_A (WR a k h0 vi vj vF vG) sz) (WR a k h0 vi vj (fT vF 51 u) vG)) (va_A (WR a k h0 vi vj vF vG) sz)) 0 0 (va_A (WR a k h0 vi vj vF vG) sz) := by
  refine Met.ofW (cc := cX12_bind) (maxL := 4) (ret := none) (by decide) rfl ?_
  intro p e s m args below meth c s₁ B hml hv
  obtain ⟨rfl, hsz, hP, hK, hD0⟩ := hv
  have hx := B.exec
  have hb := B.bytes
  have hr := B.returns
  have hts := atoms_spec (ws := wsRX12_bind) B.pre
  have hown : s.vm.findClass RX12 = some m.cls := findClass_of_methodNamed B.named
  have hlocks := B.notSynchronized
  subst hsz
  have hD := hD0.self (sz := s.heap.size)
  generalize hAe : va_A (WR a k h0 vi vj vF vG) s.heap.size = A at hD ⊢
  have hA : ∀ q : Nat, s.heap.size ≤ q → A q := fun q h => by rw [← hAe]; exact Or.inr h
  have hS : va_S A s.heap s.heap [] := va_S.rf
  have hl := lv_entry ([.ref h0, .int (nI bN), .int (nI kN)]) (n := 4) (Nat.le_of_ble_eq_true rfl)
  rw [lg_entry_eq]
  generalize (lg_sl ([.ref h0, .int (nI bN), .int (nI kN)]) ++ List.replicate (4 - (lg_sl ([.ref h0, .int (nI bN), .int (nI kN)])).length) Slot.unset).toArray = ls at hl ⊢
  have hl : lv_has ls 4 [(0, .ref h0), (1, .int (nI bN)), (2, .int (nI kN))] := hl
  obtain ⟨⟨o1, ho1, eo1⟩, hb2, xB, hxB, exB⟩ := hBn
  obtain ⟨⟨m1, hm1, hm2, em1⟩, hl1⟩ := hSe o1 ho1
  refine lv_aload_n hx hb dX12_bind_0 rfl (lv_at hl 0 rfl) ?_
  refine va_get (D := (dC, dI)) (ci := 12) (v := .ref (a 37)) (C := RX12) (T := TX12) (N := 163) (fs := fM (vS a vi vj)) hx hb hts iwsRX12_bind_in12 hown hK hP 0 rfl rfl 62 (by decide) (hts _ hm_r_X12_bind_0) (fun _ h9 => h9) rfl dX12_bind_1 ?_
  refine lv_iload_n hx hb dX12_bind_4 rfl (lv_at hl 1 rfl) ?_
  refine va_iald (cA := k 37) (n := 900) (f := (vF 37)) hx hb hK hP 38 37 (WR_get 37 (by decide)) (TR_get 37 (by decide)) (vp_in_nI (show bN < 900 by omega) (by omega)) dX12_bind_5 ?_
  refine lv_topi (fun y1 hy1 => ?_)
  obtain rfl : ((vF 37) bN) = y1 := (hy1.trans (by rw [nI_clamp (by omega)])).symm
  refine lv_iconst (v := (-1)) hx hb dX12_bind_6 (by decide) ?_
  refine W.cut (pc := 25) (fun H locs ls stk => ∃ (tw : Nat), (1 ≤ tw ∧ tw ≤ 12) ∧  stk = [.int (nI tw)] ∧ va_P (dC, dI) vwCl (WR a k h0 vi vj vF vG) H ∧ va_D A (WR a k h0 vi vj vF vG) ∧ va_S A s.heap H locs ∧ lv_has ls 4 [(0, .ref h0), (1, .int (nI bN)), (2, .int (nI kN))]) (fun join1 => ?_) ?_
  · refine lv_icmp_ne (tgt := 14) hx hb dX12_bind_7 (by decide) (fun c_7 => ?_) (fun c_7 => ?_)
    · have t_7 : (((vF 37) bN)).toInt ≠ -1 := toI_ne c_7 rfl (by decide)
      obtain ⟨o2, ho2, eo2⟩ := hb2.resolve_left c_7
      obtain ⟨⟨m2, hn1, hn2, em2⟩, hl2⟩ := hSe o2 ho2
      refine lv_aload_n hx hb dX12_bind_14 rfl (lv_at hl 0 rfl) ?_
      refine va_get (D := (dC, dI)) (ci := 12) (v := .ref (a 17)) (C := RX12) (T := TX12) (N := 163) (fs := fM (vS a vi vj)) hx hb hts iwsRX12_bind_in12 hown hK hP 0 rfl rfl 40 (by decide) (hts (.fieldLink RX12 74 "OptimaWorksModel" "setMany" "[I") (by decide +kernel)) (fun _ h9 => h9) rfl dX12_bind_15 ?_
      refine lv_aload_n hx hb dX12_bind_18 rfl (lv_at hl 0 rfl) ?_
      refine va_get (D := (dC, dI)) (ci := 12) (v := .ref (a 37)) (C := RX12) (T := TX12) (N := 163) (fs := fM (vS a vi vj)) hx hb hts iwsRX12_bind_in12 hown hK hP 0 rfl rfl 62 (by decide) (hts _ hm_r_X12_bind_0) (fun _ h9 => h9) rfl dX12_bind_19 ?_
      refine lv_iload_n hx hb dX12_bind_22 rfl (lv_at hl 1 rfl) ?_
      refine va_iald (cA := k 37) (n := 900) (f := (vF 37)) hx hb hK hP 38 37 (WR_get 37 (by decide)) (TR_get 37 (by decide)) (vp_in_nI (show bN < 900 by omega) (by omega)) dX12_bind_23 ?_
      refine lv_topi (fun y2 hy2 => ?_)
      obtain rfl : ((vF 37) bN) = y2 := (hy2.trans (by rw [nI_clamp (by omega)])).symm
      refine lv_topi (fun y3 hy3 => ?_)
      obtain rfl : (nI o2) = y3 := (hy3.trans (eo2)).symm
      refine va_iald (cA := k 17) (n := 44) (f := (vF 17)) hx hb hK hP 18 17 (WR_get 17 (by decide)) (TR_get 17 (by decide)) (vp_in_nI (show o2 < 44 by omega) (by omega)) dX12_bind_24 ?_
      refine lv_topi (fun y4 hy4 => ?_)
      obtain rfl : ((vF 17) o2) = y4 := (hy4.trans (by rw [nI_clamp (by omega)])).symm
      refine lv_topi (fun y5 hy5 => ?_)
      obtain rfl : (nI m2) = y5 := (hy5.trans (em2)).symm
      have hl : lv_has _ _ ([(0, .ref h0), (1, .int (nI bN)), (2, .int (nI kN))]) := lv_sub hl [0, 1, 2] rfl
      exact join1 _ _ _ _ ⟨m2, by omega, rfl, hP, hD, hS, hl⟩
    · have t_7 : (((vF 37) bN)).toInt = -1 := toI_nne c_7 rfl (by decide)
      refine lv_iconst (v := 1) hx hb dX12_bind_10 (by decide) ?_
      refine lv_goto (tgt := 25) hx hb dX12_bind_11 (by decide) ?_
      have hl : lv_has _ _ ([(0, .ref h0), (1, .int (nI bN)), (2, .int (nI kN))]) := lv_sub hl [0, 1, 2] rfl
      exact join1 _ _ _ _ ⟨1, by omega, rfl, hP, hD, hS, hl⟩
  · rintro H locs ls stk ⟨tw, htw, rfl, hP, hD, hS, hl⟩
    refine lv_istore_n hx hb dX12_bind_25 rfl hl (by decide) rfl (fun ls (hl : lv_has ls _ ([(3, .int (nI tw)), (0, .ref h0), (1, .int (nI bN)), (2, .int (nI kN))])) => ?_)
    refine lv_aload_n hx hb dX12_bind_26 rfl (lv_at hl 1 rfl) ?_
    refine va_get (D := (dC, dI)) (ci := 12) (v := .ref (a 51)) (C := RX12) (T := TX12) (N := 163) (fs := fM (vS a vi vj)) hx hb hts iwsRX12_bind_in12 hown hK hP 0 rfl rfl 80 (by decide) (hts _ hm_r_X12_bind_1) (fun _ h9 => h9) rfl dX12_bind_27 ?_
    refine lv_aload_n hx hb dX12_bind_30 rfl (lv_at hl 1 rfl) ?_
    refine va_get (D := (dC, dI)) (ci := 12) (v := .ref (a 38)) (C := RX12) (T := TX12) (N := 163) (fs := fM (vS a vi vj)) hx hb hts iwsRX12_bind_in12 hown hK hP 0 rfl rfl 63 (by decide) (hts _ hm_r_X12_bind_2) (fun _ h9 => h9) rfl dX12_bind_31 ?_
    refine lv_iload_n hx hb dX12_bind_34 rfl (lv_at hl 2 rfl) ?_
    refine va_iald (cA := k 38) (n := 900) (f := (vF 38)) hx hb hK hP 39 38 (WR_get 38 (by decide)) (TR_get 38 (by decide)) (vp_in_nI (show bN < 900 by omega) (by omega)) dX12_bind_35 ?_
    refine lv_topi (fun y6 hy6 => ?_)
    obtain rfl : ((vF 38) bN) = y6 := (hy6.trans (by rw [nI_clamp (by omega)])).symm
    refine lv_topi (fun y7 hy7 => ?_)
    obtain rfl : (nI xB) = y7 := (hy7.trans (exB)).symm
    refine lv_aload_n hx hb dX12_bind_36 rfl (lv_at hl 1 rfl) ?_
    refine va_get (D := (dC, dI)) (ci := 12) (v := .ref (a 16)) (C := RX12) (T := TX12) (N := 163) (fs := fM (vS a vi vj)) hx hb hts iwsRX12_bind_in12 hown hK hP 0 rfl rfl 39 (by decide) (hts _ hm_r_X12_bind_3) (fun _ h9 => h9) rfl dX12_bind_37 ?_
    refine lv_aload_n hx hb dX12_bind_40 rfl (lv_at hl 1 rfl) ?_
    refine va_get (D := (dC, dI)) (ci := 12) (v := .ref (a 36)) (C := RX12) (T := TX12) (N := 163) (fs := fM (vS a vi vj)) hx hb hts iwsRX12_bind_in12 hown hK hP 0 rfl rfl 61 (by decide) (hts (.fieldLink RX12 131 "OptimaWorksModel" "bindOne" "[I") (by decide +kernel)) (fun _ h9 => h9) rfl dX12_bind_41 ?_
    refine lv_iload_n hx hb dX12_bind_44 rfl (lv_at hl 2 rfl) ?_
    refine va_iald (cA := k 36) (n := 900) (f := (vF 36)) hx hb hK hP 37 36 (WR_get 36 (by decide)) (TR_get 36 (by decide)) (vp_in_nI (show bN < 900 by omega) (by omega)) dX12_bind_45 ?_
    refine lv_topi (fun y8 hy8 => ?_)
    obtain rfl : ((vF 36) bN) = y8 := (hy8.trans (by rw [nI_clamp (by omega)])).symm
    refine lv_topi (fun y9 hy9 => ?_)
    obtain rfl : (nI o1) = y9 := (hy9.trans (eo1)).symm
    refine va_iald (cA := k 16) (n := 44) (f := (vF 16)) hx hb hK hP 17 16 (WR_get 16 (by decide)) (TR_get 16 (by decide)) (vp_in_nI (show o1 < 44 by omega) (by omega)) dX12_bind_46 ?_
    refine lv_topi (fun y10 hy10 => ?_)
    obtain rfl : ((vF 16) o1) = y10 := (hy10.trans (by rw [nI_clamp (by omega)])).symm
    have hdv : kN / tw ≤ kN := Nat.div_le_self _ _
    have hdz : 0 ≤ ((kN / tw : Nat) : Int) := Int.natCast_nonneg _
    refine lv_iload_n hx hb dX12_bind_47 rfl (lv_at hl 3 rfl) ?_
    refine lv_iload_n hx hb dX12_bind_48 rfl (lv_at hl 0 rfl) ?_
    refine lv_idiv hx hb dX12_bind_49 (by exact nI_ne0 (by omega) (by omega)) ?_
    refine lv_topi (fun y11 hy11 => ?_)
    obtain rfl : (nI (kN / tw)) = y11 := (hy11.trans (pk_div (a := kN) (d := tw) (by omega) (by omega) (by omega))).symm
    refine lv_iadd hx hb dX12_bind_50 ?_
    have e51 : (vF 16 o1 + nI (kN / tw)).toInt = (vF 16 o1).toInt + ((kN / tw : Nat) : Int) := by rw [addB (by omega) (by rw [nI_toInt (by omega)]; omega), nI_toInt (by omega)]
    refine va_iast (cA := k 51) (n := 60) (f := (vF 51)) hx hb hK hP hD hS 52 51 (WR_get 51 (by decide)) (TR_get 51 (by decide)) (vp_in_nI (show xB < 60 by omega) (by omega)) dX12_bind_51 (fun H locs hP hD hS => ?_)
    have hP : va_P (dC, dI) vwCl (WR a k h0 vi vj (fT vF 51 (upd (vF 51) ((nI xB)).toNatClampNeg (((vF 16) o1) + (nI (kN / tw))))) vG) H := fz_w (WR_F 51 (by decide) _ rfl) hP
    have hD : va_D A (WR a k h0 vi vj (fT vF 51 (upd (vF 51) ((nI xB)).toNatClampNeg (((vF 16) o1) + (nI (kN / tw))))) vG) := fz_wD (WR_F 51 (by decide) _ rfl) hD
    refine lv_aload_n hx hb dX12_bind_52 rfl (lv_at hl 1 rfl) ?_
    refine va_get (D := (dC, dI)) (ci := 12) (v := .ref (a 37)) (C := RX12) (T := TX12) (N := 163) (fs := fM (vS a vi vj)) hx hb hts iwsRX12_bind_in12 hown hK hP 0 rfl rfl 62 (by decide) (hts _ hm_r_X12_bind_0) (fun _ h9 => h9) rfl dX12_bind_53 ?_
    refine lv_iload_n hx hb dX12_bind_56 rfl (lv_at hl 2 rfl) ?_
    refine va_iald (cA := k 37) (n := 900) (f := (vF 37)) hx hb hK hP 38 37 (WR_get 37 (by decide)) (TR_get 37 (by decide)) (vp_in_nI (show bN < 900 by omega) (by omega)) dX12_bind_57 ?_
    refine lv_topi (fun y12 hy12 => ?_)
    obtain rfl : ((vF 37) bN) = y12 := (hy12.trans (by rw [nI_clamp (by omega)])).symm
    refine lv_iconst (v := (-1)) hx hb dX12_bind_58 (by decide) ?_
    refine lv_icmp_eq (tgt := 90) hx hb dX12_bind_59 (by decide) (fun c_59 => ?_) (fun c_59 => ?_)
    · have t_59 : (((vF 37) bN)).toInt = -1 := toI_eq c_59 rfl (by decide)
      refine W.widen (k := 0) (n := 0) (by decide +kernel) (by decide +kernel) ?_
      exact W.vret hx hb hr (fun t9_ ht hW => ⟨⟨(upd (vF 51) ((nI xB)).toNatClampNeg (((vF 16) o1) + (nI (kN / tw)))), rfl, by (try dsimp only); exact hEn.set (k := xB) (fun q hq => by rw [upd_at (by omega), if_neg hq]) (by rw [upd_at (by omega), if_pos rfl]; omega), by rw [ht]; exact hP, hD⟩, hS.F ht⟩) hS.2.2 dX12_bind_90
    · have t_59 : ¬ (((vF 37) bN)).toInt = -1 := toI_neq c_59 rfl (by decide)
      obtain ⟨o2, ho2, eo2⟩ := hb2.resolve_left c_59
      obtain ⟨⟨m2, hn1, hn2, em2⟩, hl2⟩ := hSe o2 ho2
      refine lv_aload_n hx hb dX12_bind_62 rfl (lv_at hl 1 rfl) ?_
      refine va_get (D := (dC, dI)) (ci := 12) (v := .ref (a 51)) (C := RX12) (T := TX12) (N := 163) (fs := fM (vS a vi vj)) hx hb hts iwsRX12_bind_in12 hown hK hP 0 rfl rfl 80 (by decide) (hts _ hm_r_X12_bind_1) (fun _ h9 => h9) rfl dX12_bind_63 ?_
      refine lv_aload_n hx hb dX12_bind_66 rfl (lv_at hl 1 rfl) ?_
      refine va_get (D := (dC, dI)) (ci := 12) (v := .ref (a 38)) (C := RX12) (T := TX12) (N := 163) (fs := fM (vS a vi vj)) hx hb hts iwsRX12_bind_in12 hown hK hP 0 rfl rfl 63 (by decide) (hts _ hm_r_X12_bind_2) (fun _ h9 => h9) rfl dX12_bind_67 ?_
      refine lv_iload_n hx hb dX12_bind_70 rfl (lv_at hl 2 rfl) ?_
      refine va_iald (cA := k 38) (n := 900) (f := (vF 38)) hx hb hK hP 39 38 (WR_get 38 (by decide)) (TR_get 38 (by decide)) (vp_in_nI (show bN < 900 by omega) (by omega)) dX12_bind_71 ?_
      refine lv_topi (fun y13 hy13 => ?_)
      obtain rfl : ((vF 38) bN) = y13 := (hy13.trans (by rw [nI_clamp (by omega)])).symm
      refine lv_topi (fun y14 hy14 => ?_)
      obtain rfl : (nI xB) = y14 := (hy14.trans (exB)).symm
      refine lv_iconst (v := 1) hx hb dX12_bind_72 (by decide) ?_
      refine lv_iadd hx hb dX12_bind_73 ?_
      refine lv_topi (fun y15 hy15 => ?_)
      obtain rfl : (nI (xB + 1)) = y15 := (hy15.trans (nI_add xB 1)).symm
      refine lv_aload_n hx hb dX12_bind_74 rfl (lv_at hl 1 rfl) ?_
      refine va_get (D := (dC, dI)) (ci := 12) (v := .ref (a 16)) (C := RX12) (T := TX12) (N := 163) (fs := fM (vS a vi vj)) hx hb hts iwsRX12_bind_in12 hown hK hP 0 rfl rfl 39 (by decide) (hts _ hm_r_X12_bind_3) (fun _ h9 => h9) rfl dX12_bind_75 ?_
      refine lv_aload_n hx hb dX12_bind_78 rfl (lv_at hl 1 rfl) ?_
      refine va_get (D := (dC, dI)) (ci := 12) (v := .ref (a 37)) (C := RX12) (T := TX12) (N := 163) (fs := fM (vS a vi vj)) hx hb hts iwsRX12_bind_in12 hown hK hP 0 rfl rfl 62 (by decide) (hts _ hm_r_X12_bind_0) (fun _ h9 => h9) rfl dX12_bind_79 ?_
      refine lv_iload_n hx hb dX12_bind_82 rfl (lv_at hl 2 rfl) ?_
      refine va_iald (cA := k 37) (n := 900) (f := (vF 37)) hx hb hK hP 38 37 (WR_get 37 (by decide)) (TR_get 37 (by decide)) (vp_in_nI (show bN < 900 by omega) (by omega)) dX12_bind_83 ?_
      refine lv_topi (fun y16 hy16 => ?_)
      obtain rfl : ((vF 37) bN) = y16 := (hy16.trans (by rw [nI_clamp (by omega)])).symm
      refine lv_topi (fun y17 hy17 => ?_)
      obtain rfl : (nI o2) = y17 := (hy17.trans (eo2)).symm
      refine va_iald (cA := k 16) (n := 44) (f := (vF 16)) hx hb hK hP 17 16 (WR_get 16 (by decide)) (TR_get 16 (by decide)) (vp_in_nI (show o2 < 44 by omega) (by omega)) dX12_bind_84 ?_
      refine lv_topi (fun y18 hy18 => ?_)
      obtain rfl : ((vF 16) o2) = y18 := (hy18.trans (by rw [nI_clamp (by omega)])).symm
      have hmd : kN % tw < tw := Nat.mod_lt _ (by omega)
      have hmz : 0 ≤ ((kN % tw : Nat) : Int) := Int.natCast_nonneg _
      refine lv_iload_n hx hb dX12_bind_85 rfl (lv_at hl 3 rfl) ?_
      refine lv_iload_n hx hb dX12_bind_86 rfl (lv_at hl 0 rfl) ?_
      refine lv_irem hx hb dX12_bind_87 (by exact nI_ne0 (by omega) (by omega)) ?_
      refine lv_topi (fun y19 hy19 => ?_)
      obtain rfl : (nI (kN % tw)) = y19 := (hy19.trans (pk_rem (a := kN) (d := tw) (by omega) (by omega) (by omega))).symm
      refine lv_iadd hx hb dX12_bind_88 ?_
      have e89 : (vF 16 o2 + nI (kN % tw)).toInt = (vF 16 o2).toInt + ((kN % tw : Nat) : Int) := by rw [addB (by omega) (by rw [nI_toInt (by omega)]; omega), nI_toInt (by omega)]
      refine va_iast (cA := k 51) (n := 60) (f := (upd (vF 51) ((nI xB)).toNatClampNeg (((vF 16) o1) + (nI (kN / tw))))) hx hb hK hP hD hS 52 51 (WR_get 51 (by decide)) (TR_get 51 (by decide)) (vp_in_nI (show (xB + 1) < 60 by omega) (by omega)) dX12_bind_89 (fun H locs hP hD hS => ?_)
      have e9 : fT vF 51 (upd (upd (vF 51) ((nI xB)).toNatClampNeg (((vF 16) o1) + (nI (kN / tw)))) ((nI (xB + 1))).toNatClampNeg (((vF 16) o2) + (nI (kN % tw)))) = fT (fT vF 51 (upd (vF 51) ((nI xB)).toNatClampNeg (((vF 16) o1) + (nI (kN / tw))))) 51 (upd (upd (vF 51) ((nI xB)).toNatClampNeg (((vF 16) o1) + (nI (kN / tw)))) ((nI (xB + 1))).toNatClampNeg (((vF 16) o2) + (nI (kN % tw)))) := (fT_sm _ _ _ _).symm
      have hP := wr_PF e9 (fz_w (WR_F 51 (by decide) _ rfl) hP)
      have hD := wr_DF e9 (fz_wD (WR_F 51 (by decide) _ rfl) hD)
      clear e9
      refine W.widen (k := 0) (n := 0) (by decide +kernel) (by decide +kernel) ?_
      exact W.vret hx hb hr (fun t9_ ht hW => ⟨⟨(upd (upd (vF 51) ((nI xB)).toNatClampNeg (((vF 16) o1) + (nI (kN / tw)))) ((nI (xB + 1))).toNatClampNeg (((vF 16) o2) + (nI (kN % tw)))), rfl, by (try dsimp only); exact (hEn.set (k := xB) (g := upd (vF 51) (nI xB).toNatClampNeg (vF 16 o1 + nI (kN / tw))) (fun q hq => by rw [upd_at (by omega), if_neg hq]) (by rw [upd_at (by omega), if_pos rfl]; omega)).set (k := xB + 1) (fun q hq => by rw [upd_at (by omega), if_neg hq]) (by rw [upd_at (by omega), if_pos rfl]; omega), by rw [ht]; exact hP, hD⟩, hS.F ht⟩) hS.2.2 dX12_bind_90
theorem dX12_isNode_0 : decode cX12_isNode 0 = .ok (.iload_n 1, 1) := dk_27 (by decide +kernel)
theorem dX12_isNode_1 : decode cX12_isNode 1 = .ok (.iconst (-1), 1) := dk_2 (by decide +kernel)
theorem dX12_isNode_2 : decode cX12_isNode 2 = .ok (.if_icmp .eq 27, 3) := dk_159 (by decide +kernel)
theorem dX12_isNode_5 : decode cX12_isNode 5 = .ok (.aload_n 0, 1) := dk_42 (by decide +kernel)
theorem dX12_isNode_6 : decode cX12_isNode 6 = .ok (.getfield 50, 3) := dk_180 (by decide +kernel)
theorem dX12_isNode_9 : decode cX12_isNode 9 = .ok (.iload_n 1, 1) := dk_27 (by decide +kernel)
theorem dX12_isNode_10 : decode cX12_isNode 10 = .ok (.iaload, 1) := dk_46 (by decide +kernel)
theorem dX12_isNode_11 : decode cX12_isNode 11 = .ok (.iconst 2, 1) := dk_5 (by decide +kernel)
theorem dX12_isNode_12 : decode cX12_isNode 12 = .ok (.if_icmp .eq 13, 3) := dk_159 (by decide +kernel)
theorem dX12_isNode_15 : decode cX12_isNode 15 = .ok (.aload_n 0, 1) := dk_42 (by decide +kernel)
theorem dX12_isNode_16 : decode cX12_isNode 16 = .ok (.getfield 50, 3) := dk_180 (by decide +kernel)
theorem dX12_isNode_19 : decode cX12_isNode 19 = .ok (.iload_n 1, 1) := dk_27 (by decide +kernel)
theorem dX12_isNode_20 : decode cX12_isNode 20 = .ok (.iaload, 1) := dk_46 (by decide +kernel)
theorem dX12_isNode_21 : decode cX12_isNode 21 = .ok (.iconst 3, 1) := dk_6 (by decide +kernel)
theorem dX12_isNode_22 : decode cX12_isNode 22 = .ok (.if_icmp .ne 7, 3) := dk_160 (by decide +kernel)
theorem dX12_isNode_25 : decode cX12_isNode 25 = .ok (.iconst 1, 1) := dk_4 (by decide +kernel)
theorem dX12_isNode_26 : decode cX12_isNode 26 = .ok (.goto 4, 3) := dk_167 (by decide +kernel)
theorem dX12_isNode_29 : decode cX12_isNode 29 = .ok (.iconst 0, 1) := dk_3 (by decide +kernel)
theorem dX12_isNode_30 : decode cX12_isNode 30 = .ok (.ireturn, 1) := dk_172 (by decide +kernel)
def wsRisNodea : List Cond := .code yX12_isNode cX12_isNode 2 (some .boolean) :: ([.fieldLink RX12 50 "OptimaWorksModel" "nameKind" "[I"] ++ wsX120)
theorem iwsRisNodea_in12 : ∀ w ∈ wsX120, w ∈ wsRisNodea := fun _ h => List.mem_cons_of_mem _ (List.mem_append_right _ h)
theorem gdwsRisNodea : wsRisNodea.all goodWord = true := gdC rfl (gdA (by decide +kernel : ([.fieldLink RX12 50 "OptimaWorksModel" "nameKind" "[I"] : List Cond).all goodWord = true) gdwsX120)
theorem hm_r_X12_isNodea_0 : (.fieldLink RX12 50 "OptimaWorksModel" "nameKind" "[I" : Cond) ∈ wsRisNodea := by decide +kernel
set_option maxHeartbeats 4000000 in
set_option maxRecDepth 100000 in
/-- isNode(d) -/
theorem r_X12_isNodea (l : Launch) (dC : Nat → ClassId) (dI : Nat → Nat → Nat) (a : Nat → Nat) (k : Nat → ClassId) (h0 : Nat) (vi : Nat → Int32) (vj : Nat → Int64) (vF : Nat → Nat → Int32) (vG : Nat → Nat → Int64) (kx : Nat) (hkx : kx < 44) (sz : Nat) : Met l yX12_isNode wsRisNodea ({ frames := 0, cells := 0, slots := 0, locals := 0 }) (va_Pc [.ref h0, .int (nI kx)] (fun U => U.heap.size = sz ∧ va_P (dC, dI) vwCl (WR a k h0 vi vj vF vG) U.heap ∧ va_K (dC, dI) vwCl (tX12 k) U ∧ va_D (fun _ => True) (WR a k h0 vi vj vF vG))) (va_Qi (fun (r : Int32) (u : Unit) => (r = 1 ∧ (vF 10 kx = 2 ∨ vF 10 kx = 3)) ∨ (r = 0 ∧ (¬ (vF 10 kx = 2 ∨ vF 10 kx = 3)))) (fun (u : Unit) t => va_P (dC, dI) vwCl (WR a k h0 vi vj vF vG) t.heap ∧ va_D (va_A (WR a k h0 vi vj vF vG) sz) (WR a k h0 vi vj vF vG)) (va_A (WR a k h0 vi vj vF vG) sz)) 0 0 (va_A (WR a k h0 vi vj vF vG) sz) := by
  refine Met.ofW (cc := cX12_isNode) (maxL := 2) (ret := (some .boolean)) (by decide) rfl ?_
  intro p e s m args below meth c s₁ B hml hv
  obtain ⟨rfl, hsz, hP, hK, hD0⟩ := hv
  have hx := B.exec
  have hb := B.bytes
  have hr := B.returns
  have hts := atoms_spec (ws := wsRisNodea) B.pre
  have hown : s.vm.findClass RX12 = some m.cls := findClass_of_methodNamed B.named
  have hlocks := B.notSynchronized
  subst hsz
  have hD := hD0.self (sz := s.heap.size)
  generalize hAe : va_A (WR a k h0 vi vj vF vG) s.heap.size = A at hD ⊢
  have hA : ∀ q : Nat, s.heap.size ≤ q → A q := fun q h => by rw [← hAe]; exact Or.inr h
  have hS : va_S A s.heap s.heap [] := va_S.rf
  have hl := lv_entry ([.ref h0, .int (nI kx)]) (n := 2) (Nat.le_of_ble_eq_true rfl)
  rw [lg_entry_eq]
  generalize (lg_sl ([.ref h0, .int (nI kx)]) ++ List.replicate (2 - (lg_sl ([.ref h0, .int (nI kx)])).length) Slot.unset).toArray = ls at hl ⊢
  have hl : lv_has ls 2 [(0, .ref h0), (1, .int (nI kx))] := hl
  refine lv_iload_n hx hb dX12_isNode_0 rfl (lv_at hl 1 rfl) ?_
  refine lv_iconst (v := (-1)) hx hb dX12_isNode_1 (by decide) ?_
  refine lv_icmp_eq (tgt := 29) hx hb dX12_isNode_2 (by decide) (fun c9 => False.elim (nI_nm1 (by omega) c9)) (fun c_2 => ?_)
  have t_2 : ¬ ((kx : Nat) : Int) = -1 := toI_neq c_2 (nI_toInt (by omega)) (by decide)
  refine lv_aload_n hx hb dX12_isNode_5 rfl (lv_at hl 0 rfl) ?_
  refine va_get (D := (dC, dI)) (ci := 12) (v := .ref (a 10)) (C := RX12) (T := TX12) (N := 163) (fs := fM (vS a vi vj)) hx hb hts iwsRisNodea_in12 hown hK hP 0 rfl rfl 26 (by decide) (hts _ hm_r_X12_isNodea_0) (fun _ h9 => h9) rfl dX12_isNode_6 ?_
  refine lv_iload_n hx hb dX12_isNode_9 rfl (lv_at hl 1 rfl) ?_
  refine va_iald (cA := k 10) (n := 44) (f := (vF 10)) hx hb hK hP 11 10 (WR_get 10 (by decide)) (TR_get 10 (by decide)) (vp_in_nI (show kx < 44 by omega) (by omega)) dX12_isNode_10 ?_
  refine lv_topi (fun y1 hy1 => ?_)
  obtain rfl : ((vF 10) kx) = y1 := (hy1.trans (by rw [nI_clamp (by omega)])).symm
  refine lv_iconst (v := 2) hx hb dX12_isNode_11 (by decide) ?_
  refine lv_icmp_eq (tgt := 25) hx hb dX12_isNode_12 (by decide) (fun c_12 => ?_) (fun c_12 => ?_)
  · have t_12 : (((vF 10) kx)).toInt = 2 := toI_eq c_12 rfl (by decide)
    refine lv_iconst (v := 1) hx hb dX12_isNode_25 (by decide) ?_
    refine lv_goto (tgt := 30) hx hb dX12_isNode_26 (by decide) ?_
    refine W.widen (k := 0) (n := 0) (by decide +kernel) (by decide +kernel) ?_
    exact W.zret (v := 1) hx hb hr rfl (fun t9_ ht hW => ⟨⟨1, (), rfl, by (try dsimp only); exact Or.inl ⟨rfl, Or.inl c_12⟩, by rw [ht]; exact hP, hD⟩, hS.F ht⟩) hS.2.2 dX12_isNode_30
  · have t_12 : ¬ (((vF 10) kx)).toInt = 2 := toI_neq c_12 rfl (by decide)
    refine lv_aload_n hx hb dX12_isNode_15 rfl (lv_at hl 0 rfl) ?_
    refine va_get (D := (dC, dI)) (ci := 12) (v := .ref (a 10)) (C := RX12) (T := TX12) (N := 163) (fs := fM (vS a vi vj)) hx hb hts iwsRisNodea_in12 hown hK hP 0 rfl rfl 26 (by decide) (hts _ hm_r_X12_isNodea_0) (fun _ h9 => h9) rfl dX12_isNode_16 ?_
    refine lv_iload_n hx hb dX12_isNode_19 rfl (lv_at hl 1 rfl) ?_
    refine va_iald (cA := k 10) (n := 44) (f := (vF 10)) hx hb hK hP 11 10 (WR_get 10 (by decide)) (TR_get 10 (by decide)) (vp_in_nI (show kx < 44 by omega) (by omega)) dX12_isNode_20 ?_
    refine lv_topi (fun y2 hy2 => ?_)
    obtain rfl : ((vF 10) kx) = y2 := (hy2.trans (by rw [nI_clamp (by omega)])).symm
    refine lv_iconst (v := 3) hx hb dX12_isNode_21 (by decide) ?_
    refine lv_icmp_ne (tgt := 29) hx hb dX12_isNode_22 (by decide) (fun c_22 => ?_) (fun c_22 => ?_)
    · have t_22 : (((vF 10) kx)).toInt ≠ 3 := toI_ne c_22 rfl (by decide)
      refine lv_iconst (v := 0) hx hb dX12_isNode_29 (by decide) ?_
      refine W.widen (k := 0) (n := 0) (by decide +kernel) (by decide +kernel) ?_
      exact W.zret (v := 0) hx hb hr rfl (fun t9_ ht hW => ⟨⟨0, (), rfl, by (try dsimp only); exact Or.inr ⟨rfl, fun h9 => h9.elim c_12 c_22⟩, by rw [ht]; exact hP, hD⟩, hS.F ht⟩) hS.2.2 dX12_isNode_30
    · have t_22 : (((vF 10) kx)).toInt = 3 := toI_nne c_22 rfl (by decide)
      refine lv_iconst (v := 1) hx hb dX12_isNode_25 (by decide) ?_
      refine lv_goto (tgt := 30) hx hb dX12_isNode_26 (by decide) ?_
      refine W.widen (k := 0) (n := 0) (by decide +kernel) (by decide +kernel) ?_
      exact W.zret (v := 1) hx hb hr rfl (fun t9_ ht hW => ⟨⟨1, (), rfl, by (try dsimp only); exact Or.inl ⟨rfl, Or.inr c_22⟩, by rw [ht]; exact hP, hD⟩, hS.F ht⟩) hS.2.2 dX12_isNode_30
def wsRisNodeb : List Cond := .code yX12_isNode cX12_isNode 2 (some .boolean) :: ([] ++ wsX120)
theorem iwsRisNodeb_in12 : ∀ w ∈ wsX120, w ∈ wsRisNodeb := fun _ h => List.mem_cons_of_mem _ (List.mem_append_right _ h)
theorem gdwsRisNodeb : wsRisNodeb.all goodWord = true := gdC rfl (gdA (by decide +kernel : ([] : List Cond).all goodWord = true) gdwsX120)
set_option maxHeartbeats 4000000 in
set_option maxRecDepth 100000 in
/-- isNode(NONE) -/
theorem r_X12_isNodeb (l : Launch) (dC : Nat → ClassId) (dI : Nat → Nat → Nat) (a : Nat → Nat) (k : Nat → ClassId) (h0 : Nat) (vi : Nat → Int32) (vj : Nat → Int64) (vF : Nat → Nat → Int32) (vG : Nat → Nat → Int64) (sz : Nat) : Met l yX12_isNode wsRisNodeb ({ frames := 0, cells := 0, slots := 0, locals := 0 }) (va_Pc [.ref h0, .int (-1)] (fun U => U.heap.size = sz ∧ va_P (dC, dI) vwCl (WR a k h0 vi vj vF vG) U.heap ∧ va_K (dC, dI) vwCl (tX12 k) U ∧ va_D (fun _ => True) (WR a k h0 vi vj vF vG))) (va_Qi (fun (r : Int32) (u : Unit) => r = 0) (fun (u : Unit) t => va_P (dC, dI) vwCl (WR a k h0 vi vj vF vG) t.heap ∧ va_D (va_A (WR a k h0 vi vj vF vG) sz) (WR a k h0 vi vj vF vG)) (va_A (WR a k h0 vi vj vF vG) sz)) 0 0 (va_A (WR a k h0 vi vj vF vG) sz) := by
  refine Met.ofW (cc := cX12_isNode) (maxL := 2) (ret := (some .boolean)) (by decide) rfl ?_
  intro p e s m args below meth c s₁ B hml hv
  obtain ⟨rfl, hsz, hP, hK, hD0⟩ := hv
  have hx := B.exec
  have hb := B.bytes
  have hr := B.returns
  have hts := atoms_spec (ws := wsRisNodeb) B.pre
  have hown : s.vm.findClass RX12 = some m.cls := findClass_of_methodNamed B.named
  have hlocks := B.notSynchronized
  subst hsz
  have hD := hD0.self (sz := s.heap.size)
  generalize hAe : va_A (WR a k h0 vi vj vF vG) s.heap.size = A at hD ⊢
  have hA : ∀ q : Nat, s.heap.size ≤ q → A q := fun q h => by rw [← hAe]; exact Or.inr h
  have hS : va_S A s.heap s.heap [] := va_S.rf
  have hl := lv_entry ([.ref h0, .int (-1)]) (n := 2) (Nat.le_of_ble_eq_true rfl)
  rw [lg_entry_eq]
  generalize (lg_sl ([.ref h0, .int (-1)]) ++ List.replicate (2 - (lg_sl ([.ref h0, .int (-1)])).length) Slot.unset).toArray = ls at hl ⊢
  have hl : lv_has ls 2 [(0, .ref h0), (1, .int (-1))] := hl
  refine lv_iload_n hx hb dX12_isNode_0 rfl (lv_at hl 1 rfl) ?_
  refine lv_iconst (v := (-1)) hx hb dX12_isNode_1 (by decide) ?_
  refine lv_icmp_eq (tgt := 29) hx hb dX12_isNode_2 (by decide) (fun _ => ?_) (fun c9 => absurd (by decide) c9)
  refine lv_iconst (v := 0) hx hb dX12_isNode_29 (by decide) ?_
  refine W.widen (k := 0) (n := 0) (by decide +kernel) (by decide +kernel) ?_
  exact W.zret (v := 0) hx hb hr rfl (fun t9_ ht hW => ⟨⟨0, (), rfl, by (first | rfl | assumption | trivial | omega | (simp []; done) | (simp; omega)), by rw [ht]; exact hP, hD⟩, hS.F ht⟩) hS.2.2 dX12_isNode_30
theorem dX12_fresh_0 : decode cX12_fresh 0 = .ok (.aload_n 0, 1) := dk_42 (by decide +kernel)
theorem dX12_fresh_1 : decode cX12_fresh 1 = .ok (.iconst 0, 1) := dk_3 (by decide +kernel)
theorem dX12_fresh_2 : decode cX12_fresh 2 = .ok (.putfield 543, 3) := dk_181 (by decide +kernel)
theorem dX12_fresh_5 : decode cX12_fresh 5 = .ok (.aload_n 0, 1) := dk_42 (by decide +kernel)
theorem dX12_fresh_6 : decode cX12_fresh 6 = .ok (.iconst 0, 1) := dk_3 (by decide +kernel)
theorem dX12_fresh_7 : decode cX12_fresh 7 = .ok (.putfield 546, 3) := dk_181 (by decide +kernel)
theorem dX12_fresh_10 : decode cX12_fresh 10 = .ok (.aload_n 0, 1) := dk_42 (by decide +kernel)
theorem dX12_fresh_11 : decode cX12_fresh 11 = .ok (.iconst 0, 1) := dk_3 (by decide +kernel)
theorem dX12_fresh_12 : decode cX12_fresh 12 = .ok (.putfield 540, 3) := dk_181 (by decide +kernel)
theorem dX12_fresh_15 : decode cX12_fresh 15 = .ok (.aload_n 0, 1) := dk_42 (by decide +kernel)
theorem dX12_fresh_16 : decode cX12_fresh 16 = .ok (.iconst 0, 1) := dk_3 (by decide +kernel)
theorem dX12_fresh_17 : decode cX12_fresh 17 = .ok (.putfield 570, 3) := dk_181 (by decide +kernel)
theorem dX12_fresh_20 : decode cX12_fresh 20 = .ok (.aload_n 0, 1) := dk_42 (by decide +kernel)
theorem dX12_fresh_21 : decode cX12_fresh 21 = .ok (.iconst 0, 1) := dk_3 (by decide +kernel)
theorem dX12_fresh_22 : decode cX12_fresh 22 = .ok (.putfield 699, 3) := dk_181 (by decide +kernel)
theorem dX12_fresh_25 : decode cX12_fresh 25 = .ok (.aload_n 0, 1) := dk_42 (by decide +kernel)
theorem dX12_fresh_26 : decode cX12_fresh 26 = .ok (.iconst 0, 1) := dk_3 (by decide +kernel)
theorem dX12_fresh_27 : decode cX12_fresh 27 = .ok (.putfield 659, 3) := dk_181 (by decide +kernel)
theorem dX12_fresh_30 : decode cX12_fresh 30 = .ok (.aload_n 0, 1) := dk_42 (by decide +kernel)
theorem dX12_fresh_31 : decode cX12_fresh 31 = .ok (.iconst 0, 1) := dk_3 (by decide +kernel)
theorem dX12_fresh_32 : decode cX12_fresh 32 = .ok (.putfield 641, 3) := dk_181 (by decide +kernel)
theorem dX12_fresh_35 : decode cX12_fresh 35 = .ok (.aload_n 0, 1) := dk_42 (by decide +kernel)
theorem dX12_fresh_36 : decode cX12_fresh 36 = .ok (.iconst (-1), 1) := dk_2 (by decide +kernel)
theorem dX12_fresh_37 : decode cX12_fresh 37 = .ok (.putfield 68, 3) := dk_181 (by decide +kernel)
theorem dX12_fresh_40 : decode cX12_fresh 40 = .ok (.aload_n 0, 1) := dk_42 (by decide +kernel)
theorem dX12_fresh_41 : decode cX12_fresh 41 = .ok (.aload_n 0, 1) := dk_42 (by decide +kernel)
theorem dX12_fresh_42 : decode cX12_fresh 42 = .ok (.getfield 488, 3) := dk_180 (by decide +kernel)
theorem dX12_fresh_45 : decode cX12_fresh 45 = .ok (.putfield 644, 3) := dk_181 (by decide +kernel)
theorem dX12_fresh_48 : decode cX12_fresh 48 = .ok (.return_, 1) := dk_177 (by decide +kernel)
def wsRX12_fresh : List Cond := .code yX12_fresh cX12_fresh 1 none :: ([.fieldLink RX12 543 "OptimaWorksModel" "nodes" "I", .fieldLink RX12 546 "OptimaWorksModel" "bindings" "I", .fieldLink RX12 540 "OptimaWorksModel" "binders" "I", .fieldLink RX12 570 "OptimaWorksModel" "within" "I", .fieldLink RX12 699 "OptimaWorksModel" "partMany" "I", .fieldLink RX12 659 "OptimaWorksModel" "piled" "I", .fieldLink RX12 641 "OptimaWorksModel" "steps" "I", .fieldLink RX12 68 "OptimaWorksModel" "ownFrom" "I", .fieldLink RX12 488 "OptimaWorksModel" "from" "I", .fieldLink RX12 644 "OptimaWorksModel" "begun" "I"] ++ wsX120)
theorem iwsRX12_fresh_in12 : ∀ w ∈ wsX120, w ∈ wsRX12_fresh := fun _ h => List.mem_cons_of_mem _ (List.mem_append_right _ h)
theorem gdwsRX12_fresh : wsRX12_fresh.all goodWord = true := gdC rfl (gdA (by decide +kernel : ([.fieldLink RX12 543 "OptimaWorksModel" "nodes" "I", .fieldLink RX12 546 "OptimaWorksModel" "bindings" "I", .fieldLink RX12 540 "OptimaWorksModel" "binders" "I", .fieldLink RX12 570 "OptimaWorksModel" "within" "I", .fieldLink RX12 699 "OptimaWorksModel" "partMany" "I", .fieldLink RX12 659 "OptimaWorksModel" "piled" "I", .fieldLink RX12 641 "OptimaWorksModel" "steps" "I", .fieldLink RX12 68 "OptimaWorksModel" "ownFrom" "I", .fieldLink RX12 488 "OptimaWorksModel" "from" "I", .fieldLink RX12 644 "OptimaWorksModel" "begun" "I"] : List Cond).all goodWord = true) gdwsX120)
set_option maxHeartbeats 4000000 in
set_option maxRecDepth 100000 in
/-- fresh() -/
theorem r_X12_fresh (l : Launch) (dC : Nat → ClassId) (dI : Nat → Nat → Nat) (a : Nat → Nat) (k : Nat → ClassId) (h0 : Nat) (vi : Nat → Int32) (vj : Nat → Int64) (vF : Nat → Nat → Int32) (vG : Nat → Nat → Int64) (sz : Nat) : Met l yX12_fresh wsRX12_fresh ({ frames := 0, cells := 0, slots := 0, locals := 0 }) (va_Pc [.ref h0] (fun U => U.heap.size = sz ∧ va_P (dC, dI) vwCl (WR a k h0 vi vj vF vG) U.heap ∧ va_K (dC, dI) vwCl (tX12 k) U ∧ va_D (fun _ => True) (WR a k h0 vi vj vF vG))) (va_Qv (fun (u : Unit) => True) (fun (u : Unit) t => va_P (dC, dI) vwCl (WR a k h0 (fT (fT (fT (fT (fT (fT (fT (fT (fT vi 52 0) 60 0) 30 0) 75 0) 109 0) 81 0) 82 0) 33 (-1)) 83 (vi 19)) vj vF vG) t.heap ∧ va_D (va_A (WR a k h0 vi vj vF vG) sz) (WR a k h0 (fT (fT (fT (fT (fT (fT (fT (fT (fT vi 52 0) 60 0) 30 0) 75 0) 109 0) 81 0) 82 0) 33 (-1)) 83 (vi 19)) vj vF vG)) (va_A (WR a k h0 vi vj vF vG) sz)) 0 0 (va_A (WR a k h0 vi vj vF vG) sz) := by
  refine Met.ofW (cc := cX12_fresh) (maxL := 1) (ret := none) (by decide) rfl ?_
  intro p e s m args below meth c s₁ B hml hv
  obtain ⟨rfl, hsz, hP, hK, hD0⟩ := hv
  have hx := B.exec
  have hb := B.bytes
  have hr := B.returns
  have hts := atoms_spec (ws := wsRX12_fresh) B.pre
  have hown : s.vm.findClass RX12 = some m.cls := findClass_of_methodNamed B.named
  have hlocks := B.notSynchronized
  subst hsz
  have hD := hD0.self (sz := s.heap.size)
  generalize hAe : va_A (WR a k h0 vi vj vF vG) s.heap.size = A at hD ⊢
  have hA : ∀ q : Nat, s.heap.size ≤ q → A q := fun q h => by rw [← hAe]; exact Or.inr h
  have hS : va_S A s.heap s.heap [] := va_S.rf
  have hl := lv_entry ([.ref h0]) (n := 1) (Nat.le_of_ble_eq_true rfl)
  rw [lg_entry_eq]
  generalize (lg_sl ([.ref h0]) ++ List.replicate (1 - (lg_sl ([.ref h0])).length) Slot.unset).toArray = ls at hl ⊢
  have hl : lv_has ls 1 [(0, .ref h0)] := hl
  refine lv_aload_n hx hb dX12_fresh_0 rfl (lv_at hl 0 rfl) ?_
  refine lv_iconst (v := 0) hx hb dX12_fresh_1 (by decide) ?_
  refine va_put (D := (dC, dI)) (ci := 12) (v := .int 0) (ty := .int) (C := RX12) (T := TX12) (N := 163) (fs := fM (vS a vi vj)) hx hb hts iwsRX12_fresh_in12 tyX12 tyX12_ok nmX12 hown hK hP hD hS 0 rfl rfl 52 (by decide) (hts (.fieldLink RX12 543 "OptimaWorksModel" "nodes" "I") (by decide +kernel)) (fun _ h9 => h9) rfl (by decide +kernel) rfl rfl (Nat.le_of_ble_eq_true rfl) dX12_fresh_2 (fun H locs hP hD hS => ?_)
  have hP : va_P (dC, dI) vwCl (WR a k h0 (fT vi 52 0) vj vF vG) H := fz_w (WR_i 52 _ rfl) hP
  have hD : va_D A (WR a k h0 (fT vi 52 0) vj vF vG) := fz_wD (WR_i 52 _ rfl) hD
  refine lv_aload_n hx hb dX12_fresh_5 rfl (lv_at hl 0 rfl) ?_
  refine lv_iconst (v := 0) hx hb dX12_fresh_6 (by decide) ?_
  refine va_put (D := (dC, dI)) (ci := 12) (v := .int 0) (ty := .int) (C := RX12) (T := TX12) (N := 163) (fs := fM (vS a (fT vi 52 0) vj)) hx hb hts iwsRX12_fresh_in12 tyX12 tyX12_ok nmX12 hown hK hP hD hS 0 rfl rfl 60 (by decide) (hts (.fieldLink RX12 546 "OptimaWorksModel" "bindings" "I") (by decide +kernel)) (fun _ h9 => h9) rfl (by decide +kernel) rfl rfl (Nat.le_of_ble_eq_true rfl) dX12_fresh_7 (fun H locs hP hD hS => ?_)
  have hP : va_P (dC, dI) vwCl (WR a k h0 (fT (fT vi 52 0) 60 0) vj vF vG) H := fz_w (WR_i 60 _ rfl) hP
  have hD : va_D A (WR a k h0 (fT (fT vi 52 0) 60 0) vj vF vG) := fz_wD (WR_i 60 _ rfl) hD
  refine lv_aload_n hx hb dX12_fresh_10 rfl (lv_at hl 0 rfl) ?_
  refine lv_iconst (v := 0) hx hb dX12_fresh_11 (by decide) ?_
  refine va_put (D := (dC, dI)) (ci := 12) (v := .int 0) (ty := .int) (C := RX12) (T := TX12) (N := 163) (fs := fM (vS a (fT (fT vi 52 0) 60 0) vj)) hx hb hts iwsRX12_fresh_in12 tyX12 tyX12_ok nmX12 hown hK hP hD hS 0 rfl rfl 30 (by decide) (hts (.fieldLink RX12 540 "OptimaWorksModel" "binders" "I") (by decide +kernel)) (fun _ h9 => h9) rfl (by decide +kernel) rfl rfl (Nat.le_of_ble_eq_true rfl) dX12_fresh_12 (fun H locs hP hD hS => ?_)
  have hP : va_P (dC, dI) vwCl (WR a k h0 (fT (fT (fT vi 52 0) 60 0) 30 0) vj vF vG) H := fz_w (WR_i 30 _ rfl) hP
  have hD : va_D A (WR a k h0 (fT (fT (fT vi 52 0) 60 0) 30 0) vj vF vG) := fz_wD (WR_i 30 _ rfl) hD
  refine lv_aload_n hx hb dX12_fresh_15 rfl (lv_at hl 0 rfl) ?_
  refine lv_iconst (v := 0) hx hb dX12_fresh_16 (by decide) ?_
  refine va_put (D := (dC, dI)) (ci := 12) (v := .int 0) (ty := .int) (C := RX12) (T := TX12) (N := 163) (fs := fM (vS a (fT (fT (fT vi 52 0) 60 0) 30 0) vj)) hx hb hts iwsRX12_fresh_in12 tyX12 tyX12_ok nmX12 hown hK hP hD hS 0 rfl rfl 75 (by decide) (hts (.fieldLink RX12 570 "OptimaWorksModel" "within" "I") (by decide +kernel)) (fun _ h9 => h9) rfl (by decide +kernel) rfl rfl (Nat.le_of_ble_eq_true rfl) dX12_fresh_17 (fun H locs hP hD hS => ?_)
  have hP : va_P (dC, dI) vwCl (WR a k h0 (fT (fT (fT (fT vi 52 0) 60 0) 30 0) 75 0) vj vF vG) H := fz_w (WR_i 75 _ rfl) hP
  have hD : va_D A (WR a k h0 (fT (fT (fT (fT vi 52 0) 60 0) 30 0) 75 0) vj vF vG) := fz_wD (WR_i 75 _ rfl) hD
  refine lv_aload_n hx hb dX12_fresh_20 rfl (lv_at hl 0 rfl) ?_
  refine lv_iconst (v := 0) hx hb dX12_fresh_21 (by decide) ?_
  refine va_put (D := (dC, dI)) (ci := 12) (v := .int 0) (ty := .int) (C := RX12) (T := TX12) (N := 163) (fs := fM (vS a (fT (fT (fT (fT vi 52 0) 60 0) 30 0) 75 0) vj)) hx hb hts iwsRX12_fresh_in12 tyX12 tyX12_ok nmX12 hown hK hP hD hS 0 rfl rfl 109 (by decide) (hts (.fieldLink RX12 699 "OptimaWorksModel" "partMany" "I") (by decide +kernel)) (fun _ h9 => h9) rfl (by decide +kernel) rfl rfl (Nat.le_of_ble_eq_true rfl) dX12_fresh_22 (fun H locs hP hD hS => ?_)
  have hP : va_P (dC, dI) vwCl (WR a k h0 (fT (fT (fT (fT (fT vi 52 0) 60 0) 30 0) 75 0) 109 0) vj vF vG) H := fz_w (WR_i 109 _ rfl) hP
  have hD : va_D A (WR a k h0 (fT (fT (fT (fT (fT vi 52 0) 60 0) 30 0) 75 0) 109 0) vj vF vG) := fz_wD (WR_i 109 _ rfl) hD
  refine lv_aload_n hx hb dX12_fresh_25 rfl (lv_at hl 0 rfl) ?_
  refine lv_iconst (v := 0) hx hb dX12_fresh_26 (by decide) ?_
  refine va_put (D := (dC, dI)) (ci := 12) (v := .int 0) (ty := .int) (C := RX12) (T := TX12) (N := 163) (fs := fM (vS a (fT (fT (fT (fT (fT vi 52 0) 60 0) 30 0) 75 0) 109 0) vj)) hx hb hts iwsRX12_fresh_in12 tyX12 tyX12_ok nmX12 hown hK hP hD hS 0 rfl rfl 81 (by decide) (hts (.fieldLink RX12 659 "OptimaWorksModel" "piled" "I") (by decide +kernel)) (fun _ h9 => h9) rfl (by decide +kernel) rfl rfl (Nat.le_of_ble_eq_true rfl) dX12_fresh_27 (fun H locs hP hD hS => ?_)
  have hP : va_P (dC, dI) vwCl (WR a k h0 (fT (fT (fT (fT (fT (fT vi 52 0) 60 0) 30 0) 75 0) 109 0) 81 0) vj vF vG) H := fz_w (WR_i 81 _ rfl) hP
  have hD : va_D A (WR a k h0 (fT (fT (fT (fT (fT (fT vi 52 0) 60 0) 30 0) 75 0) 109 0) 81 0) vj vF vG) := fz_wD (WR_i 81 _ rfl) hD
  refine lv_aload_n hx hb dX12_fresh_30 rfl (lv_at hl 0 rfl) ?_
  refine lv_iconst (v := 0) hx hb dX12_fresh_31 (by decide) ?_
  refine va_put (D := (dC, dI)) (ci := 12) (v := .int 0) (ty := .int) (C := RX12) (T := TX12) (N := 163) (fs := fM (vS a (fT (fT (fT (fT (fT (fT vi 52 0) 60 0) 30 0) 75 0) 109 0) 81 0) vj)) hx hb hts iwsRX12_fresh_in12 tyX12 tyX12_ok nmX12 hown hK hP hD hS 0 rfl rfl 82 (by decide) (hts (.fieldLink RX12 641 "OptimaWorksModel" "steps" "I") (by decide +kernel)) (fun _ h9 => h9) rfl (by decide +kernel) rfl rfl (Nat.le_of_ble_eq_true rfl) dX12_fresh_32 (fun H locs hP hD hS => ?_)
  have hP : va_P (dC, dI) vwCl (WR a k h0 (fT (fT (fT (fT (fT (fT (fT vi 52 0) 60 0) 30 0) 75 0) 109 0) 81 0) 82 0) vj vF vG) H := fz_w (WR_i 82 _ rfl) hP
  have hD : va_D A (WR a k h0 (fT (fT (fT (fT (fT (fT (fT vi 52 0) 60 0) 30 0) 75 0) 109 0) 81 0) 82 0) vj vF vG) := fz_wD (WR_i 82 _ rfl) hD
  refine lv_aload_n hx hb dX12_fresh_35 rfl (lv_at hl 0 rfl) ?_
  refine lv_iconst (v := (-1)) hx hb dX12_fresh_36 (by decide) ?_
  refine va_put (D := (dC, dI)) (ci := 12) (v := .int (-1)) (ty := .int) (C := RX12) (T := TX12) (N := 163) (fs := fM (vS a (fT (fT (fT (fT (fT (fT (fT vi 52 0) 60 0) 30 0) 75 0) 109 0) 81 0) 82 0) vj)) hx hb hts iwsRX12_fresh_in12 tyX12 tyX12_ok nmX12 hown hK hP hD hS 0 rfl rfl 33 (by decide) (hts (.fieldLink RX12 68 "OptimaWorksModel" "ownFrom" "I") (by decide +kernel)) (fun _ h9 => h9) rfl (by decide +kernel) rfl rfl (Nat.le_of_ble_eq_true rfl) dX12_fresh_37 (fun H locs hP hD hS => ?_)
  have hP : va_P (dC, dI) vwCl (WR a k h0 (fT (fT (fT (fT (fT (fT (fT (fT vi 52 0) 60 0) 30 0) 75 0) 109 0) 81 0) 82 0) 33 (-1)) vj vF vG) H := fz_w (WR_i 33 _ rfl) hP
  have hD : va_D A (WR a k h0 (fT (fT (fT (fT (fT (fT (fT (fT vi 52 0) 60 0) 30 0) 75 0) 109 0) 81 0) 82 0) 33 (-1)) vj vF vG) := fz_wD (WR_i 33 _ rfl) hD
  refine lv_aload_n hx hb dX12_fresh_40 rfl (lv_at hl 0 rfl) ?_
  refine lv_aload_n hx hb dX12_fresh_41 rfl (lv_at hl 0 rfl) ?_
  refine va_get (D := (dC, dI)) (ci := 12) (v := .int (vi 19)) (C := RX12) (T := TX12) (N := 163) (fs := fM (vS a (fT (fT (fT (fT (fT (fT (fT (fT vi 52 0) 60 0) 30 0) 75 0) 109 0) 81 0) 82 0) 33 (-1)) vj)) hx hb hts iwsRX12_fresh_in12 hown hK hP 0 rfl rfl 19 (by decide) (hts (.fieldLink RX12 488 "OptimaWorksModel" "from" "I") (by decide +kernel)) (fun _ h9 => h9) rfl dX12_fresh_42 ?_
  refine va_put (D := (dC, dI)) (ci := 12) (v := .int (vi 19)) (ty := .int) (C := RX12) (T := TX12) (N := 163) (fs := fM (vS a (fT (fT (fT (fT (fT (fT (fT (fT vi 52 0) 60 0) 30 0) 75 0) 109 0) 81 0) 82 0) 33 (-1)) vj)) hx hb hts iwsRX12_fresh_in12 tyX12 tyX12_ok nmX12 hown hK hP hD hS 0 rfl rfl 83 (by decide) (hts (.fieldLink RX12 644 "OptimaWorksModel" "begun" "I") (by decide +kernel)) (fun _ h9 => h9) rfl (by decide +kernel) rfl rfl (Nat.le_of_ble_eq_true rfl) dX12_fresh_45 (fun H locs hP hD hS => ?_)
  have hP : va_P (dC, dI) vwCl (WR a k h0 (fT (fT (fT (fT (fT (fT (fT (fT (fT vi 52 0) 60 0) 30 0) 75 0) 109 0) 81 0) 82 0) 33 (-1)) 83 (vi 19)) vj vF vG) H := fz_w (WR_i 83 _ rfl) hP
  have hD : va_D A (WR a k h0 (fT (fT (fT (fT (fT (fT (fT (fT (fT vi 52 0) 60 0) 30 0) 75 0) 109 0) 81 0) 82 0) 33 (-1)) 83 (vi 19)) vj vF vG) := fz_wD (WR_i 83 _ rfl) hD
  refine W.widen (k := 0) (n := 0) (by decide +kernel) (by decide +kernel) ?_
  exact W.vret hx hb hr (fun t9_ ht hW => ⟨⟨(), rfl, trivial, by rw [ht]; exact hP, hD⟩, hS.F ht⟩) hS.2.2 dX12_fresh_48
theorem dX12_grow_0 : decode cX12_grow 0 = .ok (.aload_n 0, 1) := dk_42 (by decide +kernel)
theorem dX12_grow_1 : decode cX12_grow 1 = .ok (.dup, 1) := dk_89 (by decide +kernel)
theorem dX12_grow_2 : decode cX12_grow 2 = .ok (.getfield 780, 3) := dk_180 (by decide +kernel)
theorem dX12_grow_5 : decode cX12_grow 5 = .ok (.iload_n 1, 1) := dk_27 (by decide +kernel)
theorem dX12_grow_6 : decode cX12_grow 6 = .ok (.imul, 1) := dk_104 (by decide +kernel)
theorem dX12_grow_7 : decode cX12_grow 7 = .ok (.putfield 780, 3) := dk_181 (by decide +kernel)
theorem dX12_grow_10 : decode cX12_grow 10 = .ok (.aload_n 0, 1) := dk_42 (by decide +kernel)
theorem dX12_grow_11 : decode cX12_grow 11 = .ok (.getfield 780, 3) := dk_180 (by decide +kernel)
theorem dX12_grow_14 : decode cX12_grow 14 = .ok (.bipush 64, 2) := dk_16 (by decide +kernel)
theorem dX12_grow_16 : decode cX12_grow 16 = .ok (.if_icmp .le 10, 3) := dk_164 (by decide +kernel)
theorem dX12_grow_19 : decode cX12_grow 19 = .ok (.aload_n 0, 1) := dk_42 (by decide +kernel)
theorem dX12_grow_20 : decode cX12_grow 20 = .ok (.bipush 11, 2) := dk_16 (by decide +kernel)
theorem dX12_grow_22 : decode cX12_grow 22 = .ok (.iload_n 2, 1) := dk_28 (by decide +kernel)
theorem dX12_grow_23 : decode cX12_grow 23 = .ok (.invokevirtual 518, 3) := dk_182 (by decide +kernel)
theorem dX12_grow_26 : decode cX12_grow 26 = .ok (.return_, 1) := dk_177 (by decide +kernel)
def wsRX12_grow : List Cond := .code yX12_grow cX12_grow 3 none :: ([.fieldLink RX12 780 "OptimaWorksModel" "cases" "I"] ++ wsX120 ++ (wsV RX12 518 RX12 yX12_faultAt wsRX12_faultAt))
theorem iwsRX12_grow_in12 : ∀ w ∈ wsX120, w ∈ wsRX12_grow := fun _ h => List.mem_cons_of_mem _ (List.mem_append_left _ (List.mem_append_right _ h))
theorem gwsRX12_grow_0 : GoodIn wsRX12_grow (wsV RX12 518 RX12 yX12_faultAt wsRX12_faultAt) := goodIn_sub (fun _ h => List.mem_cons_of_mem _ (List.mem_append_right _ h)) (gdV (by decide +kernel) gdwsRX12_faultAt)
theorem gdwsRX12_grow : wsRX12_grow.all goodWord = true := gdC rfl (gdA (gdA (by decide +kernel : ([.fieldLink RX12 780 "OptimaWorksModel" "cases" "I"] : List Cond).all goodWord = true) gdwsX120) (gdV (by decide +kernel) gdwsRX12_faultAt))
theorem hm_r_X12_grow_0 : (.fieldLink RX12 780 "OptimaWorksModel" "cases" "I" : Cond) ∈ wsRX12_grow := by decide +kernel
set_option maxHeartbeats 4000000 in
set_option maxRecDepth 100000 in
/-- grow(by, p) -/
theorem r_X12_grow (l : Launch) (dC : Nat → ClassId) (dI : Nat → Nat → Nat) (a : Nat → Nat) (k : Nat → ClassId) (h0 : Nat) (vi : Nat → Int32) (vj : Nat → Int64) (vF : Nat → Nat → Int32) (vG : Nat → Nat → Int64) (bI : Int32) (pI : Int32) (hst0 : 0 ≤ (vi 21).toInt) (sz : Nat) : Met l yX12_grow wsRX12_grow ({ frames := 1, cells := 0, slots := 0, locals := 22 }) (va_Pc [.ref h0, .int bI, .int pI] (fun U => U.heap.size = sz ∧ va_P (dC, dI) vwCl (WR a k h0 vi vj vF vG) U.heap ∧ va_K (dC, dI) vwCl (tX12 k) U ∧ va_D (fun _ => True) (WR a k h0 vi vj vF vG))) (va_Qv (fun (u : (Int32) × (Int32) × (Int32)) => (0 ≤ ((u.2.1)).toInt) ∧ ((u.2.1) = vi 21 ∨ 0 < ((u.2.1)).toInt)) (fun (u : (Int32) × (Int32) × (Int32)) t => va_P (dC, dI) vwCl (WR a k h0 (fT (fT (fT vi 94 (u.1)) 21 (u.2.1)) 22 (u.2.2)) vj vF vG) t.heap ∧ va_D (va_A (WR a k h0 vi vj vF vG) sz) (WR a k h0 (fT (fT (fT vi 94 (u.1)) 21 (u.2.1)) 22 (u.2.2)) vj vF vG)) (va_A (WR a k h0 vi vj vF vG) sz)) 0 0 (va_A (WR a k h0 vi vj vF vG) sz) := by
  refine Met.ofW (cc := cX12_grow) (maxL := 3) (ret := none) (by decide) rfl ?_
  intro p e s m args below meth c s₁ B hml hv
  obtain ⟨rfl, hsz, hP, hK, hD0⟩ := hv
  have hx := B.exec
  have hb := B.bytes
  have hr := B.returns
  have hts := atoms_spec (ws := wsRX12_grow) B.pre
  have hown : s.vm.findClass RX12 = some m.cls := findClass_of_methodNamed B.named
  have hlocks := B.notSynchronized
  subst hsz
  have hD := hD0.self (sz := s.heap.size)
  generalize hAe : va_A (WR a k h0 vi vj vF vG) s.heap.size = A at hD ⊢
  have hA : ∀ q : Nat, s.heap.size ≤ q → A q := fun q h => by rw [← hAe]; exact Or.inr h
  have hS : va_S A s.heap s.heap [] := va_S.rf
  have hl := lv_entry ([.ref h0, .int bI, .int pI]) (n := 3) (Nat.le_of_ble_eq_true rfl)
  rw [lg_entry_eq]
  generalize (lg_sl ([.ref h0, .int bI, .int pI]) ++ List.replicate (3 - (lg_sl ([.ref h0, .int bI, .int pI])).length) Slot.unset).toArray = ls at hl ⊢
  have hl : lv_has ls 3 [(0, .ref h0), (1, .int bI), (2, .int pI)] := hl
  refine lv_aload_n hx hb dX12_grow_0 rfl (lv_at hl 0 rfl) ?_
  refine lv_dup hx hb dX12_grow_1 rfl ?_
  refine va_get (D := (dC, dI)) (ci := 12) (v := .int (vi 94)) (C := RX12) (T := TX12) (N := 163) (fs := fM (vS a vi vj)) hx hb hts iwsRX12_grow_in12 hown hK hP 0 rfl rfl 94 (by decide) (hts _ hm_r_X12_grow_0) (fun _ h9 => h9) rfl dX12_grow_2 ?_
  refine lv_iload_n hx hb dX12_grow_5 rfl (lv_at hl 1 rfl) ?_
  refine lv_imul hx hb dX12_grow_6 ?_
  refine va_put (D := (dC, dI)) (ci := 12) (v := .int ((vi 94) * bI)) (ty := .int) (C := RX12) (T := TX12) (N := 163) (fs := fM (vS a vi vj)) hx hb hts iwsRX12_grow_in12 tyX12 tyX12_ok nmX12 hown hK hP hD hS 0 rfl rfl 94 (by decide) (hts _ hm_r_X12_grow_0) (fun _ h9 => h9) rfl (by decide +kernel) rfl rfl (Nat.le_of_ble_eq_true rfl) dX12_grow_7 (fun H locs hP hD hS => ?_)
  have hP : va_P (dC, dI) vwCl (WR a k h0 (fT vi 94 ((vi 94) * bI)) vj vF vG) H := fz_w (WR_i 94 _ rfl) hP
  have hD : va_D A (WR a k h0 (fT vi 94 ((vi 94) * bI)) vj vF vG) := fz_wD (WR_i 94 _ rfl) hD
  refine lv_aload_n hx hb dX12_grow_10 rfl (lv_at hl 0 rfl) ?_
  refine va_get (D := (dC, dI)) (ci := 12) (v := .int ((vi 94) * bI)) (C := RX12) (T := TX12) (N := 163) (fs := fM (vS a (fT vi 94 ((vi 94) * bI)) vj)) hx hb hts iwsRX12_grow_in12 hown hK hP 0 rfl rfl 94 (by decide) (hts _ hm_r_X12_grow_0) (fun _ h9 => h9) rfl dX12_grow_11 ?_
  refine lv_bipush (v := 64) hx hb dX12_grow_14 (by decide) ?_
  refine lv_icmp_le (tgt := 26) hx hb dX12_grow_16 (by decide) (fun c_16 => ?_) (fun c_16 => ?_)
  · have t_16 : (((vi 94) * bI)).toInt ≤ 64 := toI_le c_16 rfl (by decide)
    refine W.widen (k := 0) (n := 0) (by decide +kernel) (by decide +kernel) ?_
    have e9 : fT (fT (fT vi 94 ((vi 94) * bI)) 21 (vi 21)) 22 (vi 22) = fT vi 94 ((vi 94) * bI) := (fT_id _ _ ((fT_ne _ _ (Nat.ne_of_beq_eq_false rfl)).trans (fT_ne _ _ (Nat.ne_of_beq_eq_false rfl)))).trans (fT_id _ _ (fT_ne _ _ (Nat.ne_of_beq_eq_false rfl)))
    have hP := wr_Pi e9 hP
    have hD := wr_Di e9 hD
    clear e9
    exact W.vret hx hb hr (fun t9_ ht hW => ⟨⟨(((vi 94) * bI), (vi 21), (vi 22)), rfl, by (try dsimp only); exact ⟨hst0, Or.inl rfl⟩, by rw [ht]; exact hP, hD⟩, hS.F ht⟩) hS.2.2 dX12_grow_26
  · have t_16 : ¬ (((vi 94) * bI)).toInt ≤ 64 := toI_nle c_16 rfl (by decide)
    refine lv_aload_n hx hb dX12_grow_19 rfl (lv_at hl 0 rfl) ?_
    refine lv_bipush (v := 11) hx hb dX12_grow_20 (by decide) ?_
    refine lv_iload_n hx hb dX12_grow_22 rfl (lv_at hl 2 rfl) ?_
    have hFc := allFree hD hS hA
    refine va_callv (va_runV (As := [.int 11, .int pI]) (rest := []) ⟨hx, hb, hml, hown, hts⟩ (r_X12_faultAt l dC dI a k h0 (fT vi 94 ((vi 94) * bI)) vj vF vG 11 pI (by first | with_reducible assumption | decide | omega | rfl | assumption) H.size) (cwV 2 hts gwsRX12_grow_0 rfl rfl rfl hd_yX12_faultAt_RX12 (by decide +kernel)) (fz_pre (va_recv hK hP (ci := 12) (q0 := 0) rfl rfl) hP hK hD) rfl rfl hl.1 rfl (lv_room (Nat.le_of_ble_eq_true rfl)) dX12_grow_23 (by decide +kernel)) hS (fun q _ h => hFc q h) hFc (fun u t9_ H locs ht hvm hw9 hB9 hz1 hk1 hS => ?_)
    revert u hw9 hB9
    refine fz_p2 ?_
    intro s223 p223 hw9 hB9
    try dsimp only at hw9 hB9
    have hP : va_P (dC, dI) vwCl (WR a k h0 (fT (fT (fT vi 94 ((vi 94) * bI)) 21 s223) 22 p223) vj vF vG) H := fz_P ht hB9.1
    have hD := fz_sd hP (hB9.2.weaken (fun _ q _ h => hFc q.1 h)) rfl
    revert hw9
    refine fz_a2 ?_
    intro f23_0 f23_1
    have f23_0 : (0 < (vi 21).toInt ∧ s223 = (vi 21) ∧ p223 = (vi 22)) ∨ (¬ 0 < (vi 21).toInt ∧ s223 = 11 ∧ p223 = pI) := f23_0
    refine W.widen (k := 0) (n := 0) (by decide +kernel) (by decide +kernel) ?_
    exact W.vret hx hb hr (fun t9_ ht hW => ⟨⟨(((vi 94) * bI), s223, p223), rfl, by (try dsimp only); exact ⟨by omega, Or.inr f23_1⟩, by rw [ht]; exact hP, hD⟩, hS.F ht⟩) hS.2.2 dX12_grow_26
theorem dX12_declare_0 : decode cX12_declare 0 = .ok (.aload_n 0, 1) := dk_42 (by decide +kernel)
theorem dX12_declare_1 : decode cX12_declare 1 = .ok (.getfield 50, 3) := dk_180 (by decide +kernel)
theorem dX12_declare_4 : decode cX12_declare 4 = .ok (.aload_n 0, 1) := dk_42 (by decide +kernel)
theorem dX12_declare_5 : decode cX12_declare 5 = .ok (.getfield 533, 3) := dk_180 (by decide +kernel)
theorem dX12_declare_8 : decode cX12_declare 8 = .ok (.iload_n 1, 1) := dk_27 (by decide +kernel)
theorem dX12_declare_9 : decode cX12_declare 9 = .ok (.iastore, 1) := dk_79 (by decide +kernel)
theorem dX12_declare_10 : decode cX12_declare 10 = .ok (.aload_n 0, 1) := dk_42 (by decide +kernel)
theorem dX12_declare_11 : decode cX12_declare 11 = .ok (.getfield 53, 3) := dk_180 (by decide +kernel)
theorem dX12_declare_14 : decode cX12_declare 14 = .ok (.aload_n 0, 1) := dk_42 (by decide +kernel)
theorem dX12_declare_15 : decode cX12_declare 15 = .ok (.getfield 533, 3) := dk_180 (by decide +kernel)
theorem dX12_declare_18 : decode cX12_declare 18 = .ok (.aload_n 0, 1) := dk_42 (by decide +kernel)
theorem dX12_declare_19 : decode cX12_declare 19 = .ok (.getfield 68, 3) := dk_180 (by decide +kernel)
theorem dX12_declare_22 : decode cX12_declare 22 = .ok (.iastore, 1) := dk_79 (by decide +kernel)
theorem dX12_declare_23 : decode cX12_declare 23 = .ok (.aload_n 0, 1) := dk_42 (by decide +kernel)
theorem dX12_declare_24 : decode cX12_declare 24 = .ok (.getfield 56, 3) := dk_180 (by decide +kernel)
theorem dX12_declare_27 : decode cX12_declare 27 = .ok (.aload_n 0, 1) := dk_42 (by decide +kernel)
theorem dX12_declare_28 : decode cX12_declare 28 = .ok (.getfield 533, 3) := dk_180 (by decide +kernel)
theorem dX12_declare_31 : decode cX12_declare 31 = .ok (.aload_n 0, 1) := dk_42 (by decide +kernel)
theorem dX12_declare_32 : decode cX12_declare 32 = .ok (.getfield 552, 3) := dk_180 (by decide +kernel)
theorem dX12_declare_35 : decode cX12_declare 35 = .ok (.iastore, 1) := dk_79 (by decide +kernel)
theorem dX12_declare_36 : decode cX12_declare 36 = .ok (.aload_n 0, 1) := dk_42 (by decide +kernel)
theorem dX12_declare_37 : decode cX12_declare 37 = .ok (.getfield 59, 3) := dk_180 (by decide +kernel)
theorem dX12_declare_40 : decode cX12_declare 40 = .ok (.aload_n 0, 1) := dk_42 (by decide +kernel)
theorem dX12_declare_41 : decode cX12_declare 41 = .ok (.getfield 533, 3) := dk_180 (by decide +kernel)
theorem dX12_declare_44 : decode cX12_declare 44 = .ok (.iload_n 2, 1) := dk_28 (by decide +kernel)
theorem dX12_declare_45 : decode cX12_declare 45 = .ok (.iastore, 1) := dk_79 (by decide +kernel)
theorem dX12_declare_46 : decode cX12_declare 46 = .ok (.aload_n 0, 1) := dk_42 (by decide +kernel)
theorem dX12_declare_47 : decode cX12_declare 47 = .ok (.dup, 1) := dk_89 (by decide +kernel)
theorem dX12_declare_48 : decode cX12_declare 48 = .ok (.getfield 533, 3) := dk_180 (by decide +kernel)
theorem dX12_declare_51 : decode cX12_declare 51 = .ok (.iconst 1, 1) := dk_4 (by decide +kernel)
theorem dX12_declare_52 : decode cX12_declare 52 = .ok (.iadd, 1) := dk_96 (by decide +kernel)
theorem dX12_declare_53 : decode cX12_declare 53 = .ok (.putfield 533, 3) := dk_181 (by decide +kernel)
theorem dX12_declare_56 : decode cX12_declare 56 = .ok (.return_, 1) := dk_177 (by decide +kernel)
def wsRX12_declare : List Cond := .code yX12_declare cX12_declare 3 none :: ([.fieldLink RX12 50 "OptimaWorksModel" "nameKind" "[I", .fieldLink RX12 533 "OptimaWorksModel" "names" "I", .fieldLink RX12 53 "OptimaWorksModel" "nameFrom" "[I", .fieldLink RX12 68 "OptimaWorksModel" "ownFrom" "I", .fieldLink RX12 56 "OptimaWorksModel" "nameLong" "[I", .fieldLink RX12 552 "OptimaWorksModel" "ownLong" "I", .fieldLink RX12 59 "OptimaWorksModel" "nameOf" "[I"] ++ wsX120)
theorem iwsRX12_declare_in12 : ∀ w ∈ wsX120, w ∈ wsRX12_declare := fun _ h => List.mem_cons_of_mem _ (List.mem_append_right _ h)
theorem gdwsRX12_declare : wsRX12_declare.all goodWord = true := gdC rfl (gdA (by decide +kernel : ([.fieldLink RX12 50 "OptimaWorksModel" "nameKind" "[I", .fieldLink RX12 533 "OptimaWorksModel" "names" "I", .fieldLink RX12 53 "OptimaWorksModel" "nameFrom" "[I", .fieldLink RX12 68 "OptimaWorksModel" "ownFrom" "I", .fieldLink RX12 56 "OptimaWorksModel" "nameLong" "[I", .fieldLink RX12 552 "OptimaWorksModel" "ownLong" "I", .fieldLink RX12 59 "OptimaWorksModel" "nameOf" "[I"] : List Cond).all goodWord = true) gdwsX120)
theorem hm_r_X12_declare_0 : (.fieldLink RX12 533 "OptimaWorksModel" "names" "I" : Cond) ∈ wsRX12_declare := by decide +kernel
set_option maxHeartbeats 4000000 in
set_option maxRecDepth 100000 in
/-- declare(k, of) -/
theorem r_X12_declare (l : Launch) (dC : Nat → ClassId) (dI : Nat → Nat → Nat) (a : Nat → Nat) (k : Nat → ClassId) (h0 : Nat) (vi : Nat → Int32) (vj : Nat → Int64) (vF : Nat → Nat → Int32) (vG : Nat → Nat → Int64) (kv : Int32) (ov : Int32) (nm : Nat) (hnm : vi 25 = nI nm) (hnm44 : nm < 44) (sz : Nat) : Met l yX12_declare wsRX12_declare ({ frames := 0, cells := 0, slots := 0, locals := 0 }) (va_Pc [.ref h0, .int kv, .int ov] (fun U => U.heap.size = sz ∧ va_P (dC, dI) vwCl (WR a k h0 vi vj vF vG) U.heap ∧ va_K (dC, dI) vwCl (tX12 k) U ∧ va_D (fun _ => True) (WR a k h0 vi vj vF vG))) (va_Qv (fun (u : Unit) => True) (fun (u : Unit) t => va_P (dC, dI) vwCl (WR a k h0 (fT vi 25 (nI (nm + 1))) vj (fT (fT (fT (fT vF 10 (upd (vF 10) (nI nm).toNatClampNeg kv)) 11 (upd (vF 11) (nI nm).toNatClampNeg (vi 33))) 12 (upd (vF 12) (nI nm).toNatClampNeg (vi 34))) 13 (upd (vF 13) (nI nm).toNatClampNeg ov)) vG) t.heap ∧ va_D (va_A (WR a k h0 vi vj vF vG) sz) (WR a k h0 (fT vi 25 (nI (nm + 1))) vj (fT (fT (fT (fT vF 10 (upd (vF 10) (nI nm).toNatClampNeg kv)) 11 (upd (vF 11) (nI nm).toNatClampNeg (vi 33))) 12 (upd (vF 12) (nI nm).toNatClampNeg (vi 34))) 13 (upd (vF 13) (nI nm).toNatClampNeg ov)) vG)) (va_A (WR a k h0 vi vj vF vG) sz)) 0 0 (va_A (WR a k h0 vi vj vF vG) sz) := by
  refine Met.ofW (cc := cX12_declare) (maxL := 3) (ret := none) (by decide) rfl ?_
  intro p e s m args below meth c s₁ B hml hv
  obtain ⟨rfl, hsz, hP, hK, hD0⟩ := hv
  have hx := B.exec
  have hb := B.bytes
  have hr := B.returns
  have hts := atoms_spec (ws := wsRX12_declare) B.pre
  have hown : s.vm.findClass RX12 = some m.cls := findClass_of_methodNamed B.named
  have hlocks := B.notSynchronized
  subst hsz
  have hD := hD0.self (sz := s.heap.size)
  generalize hAe : va_A (WR a k h0 vi vj vF vG) s.heap.size = A at hD ⊢
  have hA : ∀ q : Nat, s.heap.size ≤ q → A q := fun q h => by rw [← hAe]; exact Or.inr h
  have hS : va_S A s.heap s.heap [] := va_S.rf
  have hl := lv_entry ([.ref h0, .int kv, .int ov]) (n := 3) (Nat.le_of_ble_eq_true rfl)
  rw [lg_entry_eq]
  generalize (lg_sl ([.ref h0, .int kv, .int ov]) ++ List.replicate (3 - (lg_sl ([.ref h0, .int kv, .int ov])).length) Slot.unset).toArray = ls at hl ⊢
  have hl : lv_has ls 3 [(0, .ref h0), (1, .int kv), (2, .int ov)] := hl
  refine lv_aload_n hx hb dX12_declare_0 rfl (lv_at hl 0 rfl) ?_
  refine va_get (D := (dC, dI)) (ci := 12) (v := .ref (a 10)) (C := RX12) (T := TX12) (N := 163) (fs := fM (vS a vi vj)) hx hb hts iwsRX12_declare_in12 hown hK hP 0 rfl rfl 26 (by decide) (hts (.fieldLink RX12 50 "OptimaWorksModel" "nameKind" "[I") (by decide +kernel)) (fun _ h9 => h9) rfl dX12_declare_1 ?_
  refine lv_aload_n hx hb dX12_declare_4 rfl (lv_at hl 0 rfl) ?_
  refine va_get (D := (dC, dI)) (ci := 12) (v := .int (vi 25)) (C := RX12) (T := TX12) (N := 163) (fs := fM (vS a vi vj)) hx hb hts iwsRX12_declare_in12 hown hK hP 0 rfl rfl 25 (by decide) (hts _ hm_r_X12_declare_0) (fun _ h9 => h9) rfl dX12_declare_5 ?_
  refine lv_topi (fun y1 hy1 => ?_)
  obtain rfl : (nI nm) = y1 := (hy1.trans (hnm)).symm
  refine lv_iload_n hx hb dX12_declare_8 rfl (lv_at hl 1 rfl) ?_
  refine va_iast (cA := k 10) (n := 44) (f := (vF 10)) hx hb hK hP hD hS 11 10 (WR_get 10 (by decide)) (TR_get 10 (by decide)) (vp_in_nI (show nm < 44 by omega) (by omega)) dX12_declare_9 (fun H locs hP hD hS => ?_)
  have hP : va_P (dC, dI) vwCl (WR a k h0 vi vj (fT vF 10 (upd (vF 10) ((nI nm)).toNatClampNeg kv)) vG) H := fz_w (WR_F 10 (by decide) _ rfl) hP
  have hD : va_D A (WR a k h0 vi vj (fT vF 10 (upd (vF 10) ((nI nm)).toNatClampNeg kv)) vG) := fz_wD (WR_F 10 (by decide) _ rfl) hD
  refine lv_aload_n hx hb dX12_declare_10 rfl (lv_at hl 0 rfl) ?_
  refine va_get (D := (dC, dI)) (ci := 12) (v := .ref (a 11)) (C := RX12) (T := TX12) (N := 163) (fs := fM (vS a vi vj)) hx hb hts iwsRX12_declare_in12 hown hK hP 0 rfl rfl 27 (by decide) (hts (.fieldLink RX12 53 "OptimaWorksModel" "nameFrom" "[I") (by decide +kernel)) (fun _ h9 => h9) rfl dX12_declare_11 ?_
  refine lv_aload_n hx hb dX12_declare_14 rfl (lv_at hl 0 rfl) ?_
  refine va_get (D := (dC, dI)) (ci := 12) (v := .int (vi 25)) (C := RX12) (T := TX12) (N := 163) (fs := fM (vS a vi vj)) hx hb hts iwsRX12_declare_in12 hown hK hP 0 rfl rfl 25 (by decide) (hts _ hm_r_X12_declare_0) (fun _ h9 => h9) rfl dX12_declare_15 ?_
  refine lv_topi (fun y2 hy2 => ?_)
  obtain rfl : (nI nm) = y2 := (hy2.trans (hnm)).symm
  refine lv_aload_n hx hb dX12_declare_18 rfl (lv_at hl 0 rfl) ?_
  refine va_get (D := (dC, dI)) (ci := 12) (v := .int (vi 33)) (C := RX12) (T := TX12) (N := 163) (fs := fM (vS a vi vj)) hx hb hts iwsRX12_declare_in12 hown hK hP 0 rfl rfl 33 (by decide) (hts (.fieldLink RX12 68 "OptimaWorksModel" "ownFrom" "I") (by decide +kernel)) (fun _ h9 => h9) rfl dX12_declare_19 ?_
  refine va_iast (cA := k 11) (n := 44) (f := (vF 11)) hx hb hK hP hD hS 12 11 (WR_get 11 (by decide)) (TR_get 11 (by decide)) (vp_in_nI (show nm < 44 by omega) (by omega)) dX12_declare_22 (fun H locs hP hD hS => ?_)
  have hP : va_P (dC, dI) vwCl (WR a k h0 vi vj (fT (fT vF 10 (upd (vF 10) ((nI nm)).toNatClampNeg kv)) 11 (upd (vF 11) ((nI nm)).toNatClampNeg (vi 33))) vG) H := fz_w (WR_F 11 (by decide) _ rfl) hP
  have hD : va_D A (WR a k h0 vi vj (fT (fT vF 10 (upd (vF 10) ((nI nm)).toNatClampNeg kv)) 11 (upd (vF 11) ((nI nm)).toNatClampNeg (vi 33))) vG) := fz_wD (WR_F 11 (by decide) _ rfl) hD
  refine lv_aload_n hx hb dX12_declare_23 rfl (lv_at hl 0 rfl) ?_
  refine va_get (D := (dC, dI)) (ci := 12) (v := .ref (a 12)) (C := RX12) (T := TX12) (N := 163) (fs := fM (vS a vi vj)) hx hb hts iwsRX12_declare_in12 hown hK hP 0 rfl rfl 28 (by decide) (hts (.fieldLink RX12 56 "OptimaWorksModel" "nameLong" "[I") (by decide +kernel)) (fun _ h9 => h9) rfl dX12_declare_24 ?_
  refine lv_aload_n hx hb dX12_declare_27 rfl (lv_at hl 0 rfl) ?_
  refine va_get (D := (dC, dI)) (ci := 12) (v := .int (vi 25)) (C := RX12) (T := TX12) (N := 163) (fs := fM (vS a vi vj)) hx hb hts iwsRX12_declare_in12 hown hK hP 0 rfl rfl 25 (by decide) (hts _ hm_r_X12_declare_0) (fun _ h9 => h9) rfl dX12_declare_28 ?_
  refine lv_topi (fun y3 hy3 => ?_)
  obtain rfl : (nI nm) = y3 := (hy3.trans (hnm)).symm
  refine lv_aload_n hx hb dX12_declare_31 rfl (lv_at hl 0 rfl) ?_
  refine va_get (D := (dC, dI)) (ci := 12) (v := .int (vi 34)) (C := RX12) (T := TX12) (N := 163) (fs := fM (vS a vi vj)) hx hb hts iwsRX12_declare_in12 hown hK hP 0 rfl rfl 34 (by decide) (hts (.fieldLink RX12 552 "OptimaWorksModel" "ownLong" "I") (by decide +kernel)) (fun _ h9 => h9) rfl dX12_declare_32 ?_
  refine va_iast (cA := k 12) (n := 44) (f := (vF 12)) hx hb hK hP hD hS 13 12 (WR_get 12 (by decide)) (TR_get 12 (by decide)) (vp_in_nI (show nm < 44 by omega) (by omega)) dX12_declare_35 (fun H locs hP hD hS => ?_)
  have hP : va_P (dC, dI) vwCl (WR a k h0 vi vj (fT (fT (fT vF 10 (upd (vF 10) ((nI nm)).toNatClampNeg kv)) 11 (upd (vF 11) ((nI nm)).toNatClampNeg (vi 33))) 12 (upd (vF 12) ((nI nm)).toNatClampNeg (vi 34))) vG) H := fz_w (WR_F 12 (by decide) _ rfl) hP
  have hD : va_D A (WR a k h0 vi vj (fT (fT (fT vF 10 (upd (vF 10) ((nI nm)).toNatClampNeg kv)) 11 (upd (vF 11) ((nI nm)).toNatClampNeg (vi 33))) 12 (upd (vF 12) ((nI nm)).toNatClampNeg (vi 34))) vG) := fz_wD (WR_F 12 (by decide) _ rfl) hD
  refine lv_aload_n hx hb dX12_declare_36 rfl (lv_at hl 0 rfl) ?_
  refine va_get (D := (dC, dI)) (ci := 12) (v := .ref (a 13)) (C := RX12) (T := TX12) (N := 163) (fs := fM (vS a vi vj)) hx hb hts iwsRX12_declare_in12 hown hK hP 0 rfl rfl 29 (by decide) (hts (.fieldLink RX12 59 "OptimaWorksModel" "nameOf" "[I") (by decide +kernel)) (fun _ h9 => h9) rfl dX12_declare_37 ?_
  refine lv_aload_n hx hb dX12_declare_40 rfl (lv_at hl 0 rfl) ?_
  refine va_get (D := (dC, dI)) (ci := 12) (v := .int (vi 25)) (C := RX12) (T := TX12) (N := 163) (fs := fM (vS a vi vj)) hx hb hts iwsRX12_declare_in12 hown hK hP 0 rfl rfl 25 (by decide) (hts _ hm_r_X12_declare_0) (fun _ h9 => h9) rfl dX12_declare_41 ?_
  refine lv_topi (fun y4 hy4 => ?_)
  obtain rfl : (nI nm) = y4 := (hy4.trans (hnm)).symm
  refine lv_iload_n hx hb dX12_declare_44 rfl (lv_at hl 2 rfl) ?_
  refine va_iast (cA := k 13) (n := 44) (f := (vF 13)) hx hb hK hP hD hS 14 13 (WR_get 13 (by decide)) (TR_get 13 (by decide)) (vp_in_nI (show nm < 44 by omega) (by omega)) dX12_declare_45 (fun H locs hP hD hS => ?_)
  have hP : va_P (dC, dI) vwCl (WR a k h0 vi vj (fT (fT (fT (fT vF 10 (upd (vF 10) ((nI nm)).toNatClampNeg kv)) 11 (upd (vF 11) ((nI nm)).toNatClampNeg (vi 33))) 12 (upd (vF 12) ((nI nm)).toNatClampNeg (vi 34))) 13 (upd (vF 13) ((nI nm)).toNatClampNeg ov)) vG) H := fz_w (WR_F 13 (by decide) _ rfl) hP
  have hD : va_D A (WR a k h0 vi vj (fT (fT (fT (fT vF 10 (upd (vF 10) ((nI nm)).toNatClampNeg kv)) 11 (upd (vF 11) ((nI nm)).toNatClampNeg (vi 33))) 12 (upd (vF 12) ((nI nm)).toNatClampNeg (vi 34))) 13 (upd (vF 13) ((nI nm)).toNatClampNeg ov)) vG) := fz_wD (WR_F 13 (by decide) _ rfl) hD
  refine lv_aload_n hx hb dX12_declare_46 rfl (lv_at hl 0 rfl) ?_
  refine lv_dup hx hb dX12_declare_47 rfl ?_
  refine va_get (D := (dC, dI)) (ci := 12) (v := .int (vi 25)) (C := RX12) (T := TX12) (N := 163) (fs := fM (vS a vi vj)) hx hb hts iwsRX12_declare_in12 hown hK hP 0 rfl rfl 25 (by decide) (hts _ hm_r_X12_declare_0) (fun _ h9 => h9) rfl dX12_declare_48 ?_
  refine lv_topi (fun y5 hy5 => ?_)
  obtain rfl : (nI nm) = y5 := (hy5.trans (hnm)).symm
  refine lv_iconst (v := 1) hx hb dX12_declare_51 (by decide) ?_
  refine lv_iadd hx hb dX12_declare_52 ?_
  refine lv_topi (fun y6 hy6 => ?_)
  obtain rfl : (nI (nm + 1)) = y6 := (hy6.trans (nI_add nm 1)).symm
  refine va_put (D := (dC, dI)) (ci := 12) (v := .int (nI (nm + 1))) (ty := .int) (C := RX12) (T := TX12) (N := 163) (fs := fM (vS a vi vj)) hx hb hts iwsRX12_declare_in12 tyX12 tyX12_ok nmX12 hown hK hP hD hS 0 rfl rfl 25 (by decide) (hts _ hm_r_X12_declare_0) (fun _ h9 => h9) rfl (by decide +kernel) rfl rfl (Nat.le_of_ble_eq_true rfl) dX12_declare_53 (fun H locs hP hD hS => ?_)
  have hP : va_P (dC, dI) vwCl (WR a k h0 (fT vi 25 (nI (nm + 1))) vj (fT (fT (fT (fT vF 10 (upd (vF 10) ((nI nm)).toNatClampNeg kv)) 11 (upd (vF 11) ((nI nm)).toNatClampNeg (vi 33))) 12 (upd (vF 12) ((nI nm)).toNatClampNeg (vi 34))) 13 (upd (vF 13) ((nI nm)).toNatClampNeg ov)) vG) H := fz_w (WR_i 25 _ rfl) hP
  have hD : va_D A (WR a k h0 (fT vi 25 (nI (nm + 1))) vj (fT (fT (fT (fT vF 10 (upd (vF 10) ((nI nm)).toNatClampNeg kv)) 11 (upd (vF 11) ((nI nm)).toNatClampNeg (vi 33))) 12 (upd (vF 12) ((nI nm)).toNatClampNeg (vi 34))) 13 (upd (vF 13) ((nI nm)).toNatClampNeg ov)) vG) := fz_wD (WR_i 25 _ rfl) hD
  refine W.widen (k := 0) (n := 0) (by decide +kernel) (by decide +kernel) ?_
  have e9 : fT (fT (fT (fT vF 10 (upd (vF 10) (nI nm).toNatClampNeg kv)) 11 (upd (vF 11) (nI nm).toNatClampNeg (vi 33))) 12 (upd (vF 12) (nI nm).toNatClampNeg (vi 34))) 13 (upd (vF 13) (nI nm).toNatClampNeg ov) = fT (fT (fT (fT vF 10 (upd (vF 10) ((nI nm)).toNatClampNeg kv)) 11 (upd (vF 11) ((nI nm)).toNatClampNeg (vi 33))) 12 (upd (vF 12) ((nI nm)).toNatClampNeg (vi 34))) 13 (upd (vF 13) ((nI nm)).toNatClampNeg ov) := Eq.trans (mv_3 rfl) (Eq.trans (congrArg (fT _ 10) (show upd (vF 10) (nI nm).toNatClampNeg kv = upd (vF 10) ((nI nm)).toNatClampNeg kv from (by first | with_reducible rfl | with_reducible assumption | (symm; with_reducible assumption) | rfl | assumption | (symm; assumption) | (subst_vars; rfl)))) (Eq.trans (mv_3 rfl) (Eq.trans (congrArg (fT _ 11) (show upd (vF 11) (nI nm).toNatClampNeg (vi 33) = upd (vF 11) ((nI nm)).toNatClampNeg (vi 33) from (by first | with_reducible rfl | with_reducible assumption | (symm; with_reducible assumption) | rfl | assumption | (symm; assumption) | (subst_vars; rfl)))) (Eq.trans (mv_3 rfl) (Eq.trans (congrArg (fT _ 12) (show upd (vF 12) (nI nm).toNatClampNeg (vi 34) = upd (vF 12) ((nI nm)).toNatClampNeg (vi 34) from (by first | with_reducible rfl | with_reducible assumption | (symm; with_reducible assumption) | rfl | assumption | (symm; assumption) | (subst_vars; rfl)))) (Eq.trans (mv_3 rfl) (congrArg (fT _ 13) (show upd (vF 13) (nI nm).toNatClampNeg ov = upd (vF 13) ((nI nm)).toNatClampNeg ov from (by first | with_reducible rfl | with_reducible assumption | (symm; with_reducible assumption) | rfl | assumption | (symm; assumption) | (subst_vars; rfl))))))))))
  have hP := wr_PF e9 hP
  have hD := wr_DF e9 hD
  clear e9
  exact W.vret hx hb hr (fun t9_ ht hW => ⟨⟨(), rfl, trivial, by rw [ht]; exact hP, hD⟩, hS.F ht⟩) hS.2.2 dX12_declare_56
theorem dX12_readSet_0 : decode cX12_readSet 0 = .ok (.aload_n 0, 1) := dk_42 (by decide +kernel)
theorem dX12_readSet_1 : decode cX12_readSet 1 = .ok (.getfield 515, 3) := dk_180 (by decide +kernel)
theorem dX12_readSet_4 : decode cX12_readSet 4 = .ok (.ifCond .le 5, 3) := dk_158 (by decide +kernel)
theorem dX12_readSet_7 : decode cX12_readSet 7 = .ok (.iconst 0, 1) := dk_3 (by decide +kernel)
theorem dX12_readSet_8 : decode cX12_readSet 8 = .ok (.ireturn, 1) := dk_172 (by decide +kernel)
theorem dX12_readSet_9 : decode cX12_readSet 9 = .ok (.aload_n 0, 1) := dk_42 (by decide +kernel)
theorem dX12_readSet_10 : decode cX12_readSet 10 = .ok (.getfield 494, 3) := dk_180 (by decide +kernel)
theorem dX12_readSet_13 : decode cX12_readSet 13 = .ok (.iconst 1, 1) := dk_4 (by decide +kernel)
theorem dX12_readSet_14 : decode cX12_readSet 14 = .ok (.if_icmp .eq 9, 3) := dk_159 (by decide +kernel)
theorem dX12_readSet_17 : decode cX12_readSet 17 = .ok (.aload_n 0, 1) := dk_42 (by decide +kernel)
theorem dX12_readSet_18 : decode cX12_readSet 18 = .ok (.invokevirtual 527, 3) := dk_182 (by decide +kernel)
theorem dX12_readSet_21 : decode cX12_readSet 21 = .ok (.iconst 0, 1) := dk_3 (by decide +kernel)
theorem dX12_readSet_22 : decode cX12_readSet 22 = .ok (.ireturn, 1) := dk_172 (by decide +kernel)
theorem dX12_readSet_23 : decode cX12_readSet 23 = .ok (.aload_n 0, 1) := dk_42 (by decide +kernel)
theorem dX12_readSet_24 : decode cX12_readSet 24 = .ok (.invokevirtual 555, 3) := dk_182 (by decide +kernel)
theorem dX12_readSet_27 : decode cX12_readSet 27 = .ok (.istore_n 1, 1) := dk_60 (by decide +kernel)
theorem dX12_readSet_28 : decode cX12_readSet 28 = .ok (.iload_n 1, 1) := dk_27 (by decide +kernel)
theorem dX12_readSet_29 : decode cX12_readSet 29 = .ok (.iconst (-1), 1) := dk_2 (by decide +kernel)
theorem dX12_readSet_30 : decode cX12_readSet 30 = .ok (.if_icmp .eq 13, 3) := dk_159 (by decide +kernel)
theorem dX12_readSet_33 : decode cX12_readSet 33 = .ok (.aload_n 0, 1) := dk_42 (by decide +kernel)
theorem dX12_readSet_34 : decode cX12_readSet 34 = .ok (.getfield 50, 3) := dk_180 (by decide +kernel)
theorem dX12_readSet_37 : decode cX12_readSet 37 = .ok (.iload_n 1, 1) := dk_27 (by decide +kernel)
theorem dX12_readSet_38 : decode cX12_readSet 38 = .ok (.iaload, 1) := dk_46 (by decide +kernel)
theorem dX12_readSet_39 : decode cX12_readSet 39 = .ok (.iconst 1, 1) := dk_4 (by decide +kernel)
theorem dX12_readSet_40 : decode cX12_readSet 40 = .ok (.if_icmp .eq 14, 3) := dk_159 (by decide +kernel)
theorem dX12_readSet_43 : decode cX12_readSet 43 = .ok (.aload_n 0, 1) := dk_42 (by decide +kernel)
theorem dX12_readSet_44 : decode cX12_readSet 44 = .ok (.iconst 3, 1) := dk_6 (by decide +kernel)
theorem dX12_readSet_45 : decode cX12_readSet 45 = .ok (.aload_n 0, 1) := dk_42 (by decide +kernel)
theorem dX12_readSet_46 : decode cX12_readSet 46 = .ok (.getfield 488, 3) := dk_180 (by decide +kernel)
theorem dX12_readSet_49 : decode cX12_readSet 49 = .ok (.invokevirtual 518, 3) := dk_182 (by decide +kernel)
theorem dX12_readSet_52 : decode cX12_readSet 52 = .ok (.iconst 0, 1) := dk_3 (by decide +kernel)
theorem dX12_readSet_53 : decode cX12_readSet 53 = .ok (.ireturn, 1) := dk_172 (by decide +kernel)
theorem dX12_readSet_54 : decode cX12_readSet 54 = .ok (.aload_n 0, 1) := dk_42 (by decide +kernel)
theorem dX12_readSet_55 : decode cX12_readSet 55 = .ok (.invokevirtual 524, 3) := dk_182 (by decide +kernel)
theorem dX12_readSet_58 : decode cX12_readSet 58 = .ok (.aload_n 0, 1) := dk_42 (by decide +kernel)
theorem dX12_readSet_59 : decode cX12_readSet 59 = .ok (.getfield 59, 3) := dk_180 (by decide +kernel)
theorem dX12_readSet_62 : decode cX12_readSet 62 = .ok (.iload_n 1, 1) := dk_27 (by decide +kernel)
theorem dX12_readSet_63 : decode cX12_readSet 63 = .ok (.iaload, 1) := dk_46 (by decide +kernel)
theorem dX12_readSet_64 : decode cX12_readSet 64 = .ok (.ireturn, 1) := dk_172 (by decide +kernel)
def wsRX12_readSet : List Cond := .code yX12_readSet cX12_readSet 2 (some .int) :: ([.fieldLink RX12 515 "OptimaWorksModel" "stop" "I", .fieldLink RX12 494 "OptimaWorksModel" "word" "I", .fieldLink RX12 488 "OptimaWorksModel" "from" "I", .fieldLink RX12 50 "OptimaWorksModel" "nameKind" "[I", .fieldLink RX12 59 "OptimaWorksModel" "nameOf" "[I"] ++ wsX120 ++ (wsV RX12 555 RX12 yX12_declared wsRX12_declared) ++ (wsV RX12 518 RX12 yX12_faultAt wsRX12_faultAt) ++ (wsV RX12 524 RX12 yX12_next wsRX12_next) ++ (wsV RX12 527 RX12 yX12_wrong wsRX12_wrong))
theorem iwsRX12_readSet_in12 : ∀ w ∈ wsX120, w ∈ wsRX12_readSet := fun _ h => List.mem_cons_of_mem _ (List.mem_append_left _ (List.mem_append_left _ (List.mem_append_left _ (List.mem_append_left _ (List.mem_append_right _ h)))))
theorem gwsRX12_readSet_0 : GoodIn wsRX12_readSet (wsV RX12 555 RX12 yX12_declared wsRX12_declared) := goodIn_sub (fun _ h => List.mem_cons_of_mem _ (List.mem_append_left _ (List.mem_append_left _ (List.mem_append_left _ (List.mem_append_right _ h))))) (gdV (by decide +kernel) gdwsRX12_declared)
theorem gwsRX12_readSet_1 : GoodIn wsRX12_readSet (wsV RX12 518 RX12 yX12_faultAt wsRX12_faultAt) := goodIn_sub (fun _ h => List.mem_cons_of_mem _ (List.mem_append_left _ (List.mem_append_left _ (List.mem_append_right _ h)))) (gdV (by decide +kernel) gdwsRX12_faultAt)
theorem gwsRX12_readSet_2 : GoodIn wsRX12_readSet (wsV RX12 524 RX12 yX12_next wsRX12_next) := goodIn_sub (fun _ h => List.mem_cons_of_mem _ (List.mem_append_left _ (List.mem_append_right _ h))) (gdV (by decide +kernel) gdwsRX12_next)
theorem gwsRX12_readSet_3 : GoodIn wsRX12_readSet (wsV RX12 527 RX12 yX12_wrong wsRX12_wrong) := goodIn_sub (fun _ h => List.mem_cons_of_mem _ (List.mem_append_right _ h)) (gdV (by decide +kernel) gdwsRX12_wrong)
theorem gdwsRX12_readSet : wsRX12_readSet.all goodWord = true := gdC rfl (gdA (gdA (gdA (gdA (gdA (by decide +kernel : ([.fieldLink RX12 515 "OptimaWorksModel" "stop" "I", .fieldLink RX12 494 "OptimaWorksModel" "word" "I", .fieldLink RX12 488 "OptimaWorksModel" "from" "I", .fieldLink RX12 50 "OptimaWorksModel" "nameKind" "[I", .fieldLink RX12 59 "OptimaWorksModel" "nameOf" "[I"] : List Cond).all goodWord = true) gdwsX120) (gdV (by decide +kernel) gdwsRX12_declared)) (gdV (by decide +kernel) gdwsRX12_faultAt)) (gdV (by decide +kernel) gdwsRX12_next)) (gdV (by decide +kernel) gdwsRX12_wrong))
theorem hm_r_X12_readSet_0 : (.fieldLink RX12 488 "OptimaWorksModel" "from" "I" : Cond) ∈ wsRX12_readSet := by decide +kernel
set_option maxHeartbeats 4000000 in
set_option maxRecDepth 100000 in
/-- readSet() -/
theorem r_X12_readSet (l : Launch) (dC : Nat → ClassId) (dI : Nat → Nat → Nat) (a : Nat → Nat) (k : Nat → ClassId) (h0 : Nat) (vi : Nat → Int32) (vj : Nat → Int64) (vF : Nat → Nat → Int32) (vG : Nat → Nat → Int64) (tp : Nat) (an : Nat) (fn : Nat) (nm : Nat) (se : Nat) (pa : Nat) (va : Nat) (hTp : vi 16 = nI tp) (htp : tp ≤ 4000) (ha0 : vi 17 = nI an) (hfr : vi 19 = nI fn) (hLx : LxO tp fn an (vi 18) (vi 20)) (hst0 : 0 ≤ (vi 21).toInt) (hnm : vi 25 = nI nm) (hnm40 : nm ≤ 40) (hno : NmO (vF 11) (vF 12) nm) (hNk : NkO (vF 10) (vF 13) nm se pa va) (sz : Nat) : Met l yX12_readSet wsRX12_readSet ({ frames := 8, cells := 0, slots := 0, locals := 173 }) (va_Pc [.ref h0] (fun U => U.heap.size = sz ∧ va_P (dC, dI) vwCl (WR a k h0 vi vj vF vG) U.heap ∧ va_K (dC, dI) vwCl (tX12 k) U ∧ va_D (fun _ => True) (WR a k h0 vi vj vF vG) ∧ StrA (va_A (WR a k h0 vi vj vF vG) sz) U U.heap)) (va_Qi (fun (r : Int32) (u : (Nat) × (Nat) × (Int32) × (Int32) × (Int32) × (Int32)) => (LxO tp (u.2.1) (u.1) (u.2.2.2.1) (u.2.2.1)) ∧ (fn ≤ (u.2.1)) ∧ (0 ≤ ((u.2.2.2.2.1)).toInt) ∧ ((0 < ((u.2.2.2.2.1)).toInt) ∨ ((u.2.2.2.2.1) = 0 ∧ fn < (u.2.1) ∧ ∃ o, o < se ∧ (r) = nI o))) (fun (u : (Nat) × (Nat) × (Int32) × (Int32) × (Int32) × (Int32)) t => va_P (dC, dI) vwCl (WR a k h0 (fT (fT (fT (fT (fT (fT vi 17 (nI (u.1))) 19 (nI (u.2.1))) 20 (u.2.2.1)) 18 (u.2.2.2.1)) 21 (u.2.2.2.2.1)) 22 (u.2.2.2.2.2)) vj vF vG) t.heap ∧ va_D (va_A (WR a k h0 vi vj vF vG) sz) (WR a k h0 (fT (fT (fT (fT (fT (fT vi 17 (nI (u.1))) 19 (nI (u.2.1))) 20 (u.2.2.1)) 18 (u.2.2.2.1)) 21 (u.2.2.2.2.1)) 22 (u.2.2.2.2.2)) vj vF vG)) (va_A (WR a k h0 vi vj vF vG) sz)) 0 0 (va_A (WR a k h0 vi vj vF vG) sz) := by
  refine Met.ofW (cc := cX12_readSet) (maxL := 2) (ret := (some .int)) (by decide) rfl ?_
  intro p e s m args below meth c s₁ B hml hv
  obtain ⟨rfl, hsz, hP, hK, hD0, hE⟩ := hv
  have hx := B.exec
  have hb := B.bytes
  have hr := B.returns
  have hts := atoms_spec (ws := wsRX12_readSet) B.pre
  have hown : s.vm.findClass RX12 = some m.cls := findClass_of_methodNamed B.named
  have hlocks := B.notSynchronized
  subst hsz
  have hD := hD0.self (sz := s.heap.size)
  generalize hAe : va_A (WR a k h0 vi vj vF vG) s.heap.size = A at hD hE ⊢
  have hA : ∀ q : Nat, s.heap.size ≤ q → A q := fun q h => by rw [← hAe]; exact Or.inr h
  have hS : va_S A s.heap s.heap [] := va_S.rf
  have hl := lv_entry ([.ref h0]) (n := 2) (Nat.le_of_ble_eq_true rfl)
  rw [lg_entry_eq]
  generalize (lg_sl ([.ref h0]) ++ List.replicate (2 - (lg_sl ([.ref h0])).length) Slot.unset).toArray = ls at hl ⊢
  have hl : lv_has ls 2 [(0, .ref h0)] := hl
  have hfa := hLx.1
  have han := hLx.2.1
  have han4 : an ≤ 4000 := by omega
  refine lv_aload_n hx hb dX12_readSet_0 rfl (lv_at hl 0 rfl) ?_
  refine va_get (D := (dC, dI)) (ci := 12) (v := .int (vi 21)) (C := RX12) (T := TX12) (N := 163) (fs := fM (vS a vi vj)) hx hb hts iwsRX12_readSet_in12 hown hK hP 0 rfl rfl 21 (by decide) (hts (.fieldLink RX12 515 "OptimaWorksModel" "stop" "I") (by decide +kernel)) (fun _ h9 => h9) rfl dX12_readSet_1 ?_
  refine lv_if_le (tgt := 9) hx hb dX12_readSet_4 (by decide) (fun c_4 => ?_) (fun c_4 => ?_)
  · have t_4 : ((vi 21)).toInt ≤ 0 := toI_le c_4 rfl (by decide)
    refine lv_aload_n hx hb dX12_readSet_9 rfl (lv_at hl 0 rfl) ?_
    refine va_get (D := (dC, dI)) (ci := 12) (v := .int (vi 18)) (C := RX12) (T := TX12) (N := 163) (fs := fM (vS a vi vj)) hx hb hts iwsRX12_readSet_in12 hown hK hP 0 rfl rfl 18 (by decide) (hts (.fieldLink RX12 494 "OptimaWorksModel" "word" "I") (by decide +kernel)) (fun _ h9 => h9) rfl dX12_readSet_10 ?_
    refine lv_iconst (v := 1) hx hb dX12_readSet_13 (by decide) ?_
    refine lv_icmp_eq (tgt := 23) hx hb dX12_readSet_14 (by decide) (fun c_14 => ?_) (fun c_14 => ?_)
    · have t_14 : ((vi 18)).toInt = 1 := toI_eq c_14 rfl (by decide)
      refine lv_aload_n hx hb dX12_readSet_23 rfl (lv_at hl 0 rfl) ?_
      have hFc := allFree hD hS hA
      refine va_calli (va_runV (As := []) (rest := []) ⟨hx, hb, hml, hown, hts⟩ (r_X12_declared l dC dI a k h0 vi vj vF vG an fn nm ha0 hfr (by first | with_reducible assumption | decide | omega | rfl | assumption) (by first | with_reducible assumption | decide | omega | rfl | assumption) hnm (by first | with_reducible assumption | decide | omega | rfl | assumption) (by first | with_reducible assumption | decide | omega | rfl | assumption) s.heap.size) (cwV 0 hts gwsRX12_readSet_0 rfl rfl rfl hd_yX12_declared_RX12 (by decide +kernel)) (fz_pre (va_recv hK hP (ci := 12) (q0 := 0) rfl rfl) hP hK hD) rfl rfl hl.1 rfl (lv_room (Nat.le_of_ble_eq_true rfl)) dX12_readSet_24 (by decide +kernel)) hS (fun q _ h => hFc q h) hFc (fun r24 kx24 t9_ H locs ht hvm hw9 hB9 hz1 hk1 hS => ?_)
      have hP : va_P (dC, dI) vwCl (WR a k h0 vi vj vF vG) H := fz_P ht hB9.1
      have hD := fz_sd hP (hB9.2.weaken (fun _ q _ h => hFc q.1 h)) rfl
      rcases hw9 with rfl | ⟨rfl, f24_0⟩
      · refine lv_istore_n hx hb dX12_readSet_27 rfl hl (by decide) rfl (fun ls (hl : lv_has ls _ ([(1, .int (-1)), (0, .ref h0)])) => ?_)
        refine lv_iload_n hx hb dX12_readSet_28 rfl (lv_at hl 0 rfl) ?_
        refine lv_iconst (v := (-1)) hx hb dX12_readSet_29 (by decide) ?_
        refine lv_icmp_eq (tgt := 43) hx hb dX12_readSet_30 (by decide) (fun _ => ?_) (fun c9 => absurd (by decide) c9)
        refine lv_aload_n hx hb dX12_readSet_43 rfl (lv_at hl 1 rfl) ?_
        refine lv_iconst (v := 3) hx hb dX12_readSet_44 (by decide) ?_
        refine lv_aload_n hx hb dX12_readSet_45 rfl (lv_at hl 1 rfl) ?_
        refine va_get (D := (dC, dI)) (ci := 12) (v := .int (vi 19)) (C := RX12) (T := TX12) (N := 163) (fs := fM (vS a vi vj)) hx hb hts iwsRX12_readSet_in12 hown hK hP 0 rfl rfl 19 (by decide) (hts _ hm_r_X12_readSet_0) (fun _ h9 => h9) rfl dX12_readSet_46 ?_
        refine lv_topi (fun y1 hy1 => ?_)
        obtain rfl : (nI fn) = y1 := (hy1.trans (hfr)).symm
        have hFc := allFree hD hS hA
        refine va_callv (va_runV (As := [.int 3, .int (nI fn)]) (rest := []) ⟨hx, hb, hml, hown, hts⟩ (r_X12_faultAt l dC dI a k h0 vi vj vF vG 3 (nI fn) (by first | with_reducible assumption | decide | omega | rfl | assumption) H.size) (cwV 2 hts gwsRX12_readSet_1 rfl rfl rfl hd_yX12_faultAt_RX12 (by decide +kernel)) (fz_pre (va_recv hK hP (ci := 12) (q0 := 0) rfl rfl) hP hK hD) rfl rfl hl.1 rfl (lv_room (Nat.le_of_ble_eq_true rfl)) dX12_readSet_49 (by decide +kernel)) hS (fun q _ h => hFc q h) hFc (fun u t9_ H locs ht hvm hw9 hB9 hz1 hk1 hS => ?_)
        revert u hw9 hB9
        refine fz_p2 ?_
        intro s249 p249 hw9 hB9
        try dsimp only at hw9 hB9
        have hP : va_P (dC, dI) vwCl (WR a k h0 (fT (fT vi 21 s249) 22 p249) vj vF vG) H := fz_P ht hB9.1
        have hD := fz_sd hP (hB9.2.weaken (fun _ q _ h => hFc q.1 h)) rfl
        revert hw9
        refine fz_a2 ?_
        intro f49_0 f49_1
        have f49_0 : (0 < (vi 21).toInt ∧ s249 = (vi 21) ∧ p249 = (vi 22)) ∨ (¬ 0 < (vi 21).toInt ∧ s249 = 3 ∧ p249 = (nI fn)) := f49_0
        refine lv_iconst (v := 0) hx hb dX12_readSet_52 (by decide) ?_
        refine W.widen (k := 0) (n := 0) (by decide +kernel) (by decide +kernel) ?_
        have e9 : fT (fT (fT (fT (fT (fT vi 17 (nI an)) 19 (nI fn)) 20 (vi 20)) 18 (vi 18)) 21 s249) 22 p249 = fT (fT vi 21 s249) 22 p249 := Eq.trans (mv_5 rfl) (Eq.trans (congrArg (fT _ 17) (show nI an = vi 17 from (by first | with_reducible rfl | with_reducible assumption | (symm; with_reducible assumption) | rfl | assumption | (symm; assumption) | (subst_vars; rfl)))) (Eq.trans (id_5 rfl) (Eq.trans (mv_4 rfl) (Eq.trans (congrArg (fT _ 19) (show nI fn = vi 19 from (by first | with_reducible rfl | with_reducible assumption | (symm; with_reducible assumption) | rfl | assumption | (symm; assumption) | (subst_vars; rfl)))) (Eq.trans (id_4 rfl) (Eq.trans (mv_3 rfl) (Eq.trans (id_3 rfl) (Eq.trans (mv_2 rfl) (id_2 rfl)))))))))
        have hP := wr_Pi e9 hP
        have hD := wr_Di e9 hD
        clear e9
        exact W.iret (v := 0) hx hb hr (fun t9_ ht hW => ⟨⟨0, (an, fn, (vi 20), (vi 18), s249, p249), rfl, by (try dsimp only); exact ⟨hLx, Nat.le_refl _, by (have h9 := f49_1); omega, Or.inl f49_1⟩, by rw [ht]; exact hP, hD⟩, hS.F ht⟩) hS.2.2 dX12_readSet_53
      · refine lv_istore_n hx hb dX12_readSet_27 rfl hl (by decide) rfl (fun ls (hl : lv_has ls _ ([(1, .int (nI kx24)), (0, .ref h0)])) => ?_)
        refine lv_iload_n hx hb dX12_readSet_28 rfl (lv_at hl 0 rfl) ?_
        refine lv_iconst (v := (-1)) hx hb dX12_readSet_29 (by decide) ?_
        refine lv_icmp_eq (tgt := 43) hx hb dX12_readSet_30 (by decide) (fun c_30 => ?_) (fun c_30 => ?_)
        · have t_30 : ((kx24 : Nat) : Int) = -1 := toI_eq c_30 (nI_toInt (by omega)) (by decide)
          refine lv_aload_n hx hb dX12_readSet_43 rfl (lv_at hl 1 rfl) ?_
          refine lv_iconst (v := 3) hx hb dX12_readSet_44 (by decide) ?_
          refine lv_aload_n hx hb dX12_readSet_45 rfl (lv_at hl 1 rfl) ?_
          refine va_get (D := (dC, dI)) (ci := 12) (v := .int (vi 19)) (C := RX12) (T := TX12) (N := 163) (fs := fM (vS a vi vj)) hx hb hts iwsRX12_readSet_in12 hown hK hP 0 rfl rfl 19 (by decide) (hts _ hm_r_X12_readSet_0) (fun _ h9 => h9) rfl dX12_readSet_46 ?_
          refine lv_topi (fun y2 hy2 => ?_)
          obtain rfl : (nI fn) = y2 := (hy2.trans (hfr)).symm
          have hFc := allFree hD hS hA
          refine va_callv (va_runV (As := [.int 3, .int (nI fn)]) (rest := []) ⟨hx, hb, hml, hown, hts⟩ (r_X12_faultAt l dC dI a k h0 vi vj vF vG 3 (nI fn) (by first | with_reducible assumption | decide | omega | rfl | assumption) H.size) (cwV 2 hts gwsRX12_readSet_1 rfl rfl rfl hd_yX12_faultAt_RX12 (by decide +kernel)) (fz_pre (va_recv hK hP (ci := 12) (q0 := 0) rfl rfl) hP hK hD) rfl rfl hl.1 rfl (lv_room (Nat.le_of_ble_eq_true rfl)) dX12_readSet_49 (by decide +kernel)) hS (fun q _ h => hFc q h) hFc (fun u t9_ H locs ht hvm hw9 hB9 hz1 hk1 hS => ?_)
          revert u hw9 hB9
          refine fz_p2 ?_
          intro s249_1 p249_1 hw9 hB9
          try dsimp only at hw9 hB9
          have hP : va_P (dC, dI) vwCl (WR a k h0 (fT (fT vi 21 s249_1) 22 p249_1) vj vF vG) H := fz_P ht hB9.1
          have hD := fz_sd hP (hB9.2.weaken (fun _ q _ h => hFc q.1 h)) rfl
          revert hw9
          refine fz_a2 ?_
          intro f49_1_0 f49_1_1
          have f49_1_0 : (0 < (vi 21).toInt ∧ s249_1 = (vi 21) ∧ p249_1 = (vi 22)) ∨ (¬ 0 < (vi 21).toInt ∧ s249_1 = 3 ∧ p249_1 = (nI fn)) := f49_1_0
          refine lv_iconst (v := 0) hx hb dX12_readSet_52 (by decide) ?_
          refine W.widen (k := 0) (n := 0) (by decide +kernel) (by decide +kernel) ?_
          have e9 : fT (fT (fT (fT (fT (fT vi 17 (nI an)) 19 (nI fn)) 20 (vi 20)) 18 (vi 18)) 21 s249_1) 22 p249_1 = fT (fT vi 21 s249_1) 22 p249_1 := Eq.trans (mv_5 rfl) (Eq.trans (congrArg (fT _ 17) (show nI an = vi 17 from (by first | with_reducible rfl | with_reducible assumption | (symm; with_reducible assumption) | rfl | assumption | (symm; assumption) | (subst_vars; rfl)))) (Eq.trans (id_5 rfl) (Eq.trans (mv_4 rfl) (Eq.trans (congrArg (fT _ 19) (show nI fn = vi 19 from (by first | with_reducible rfl | with_reducible assumption | (symm; with_reducible assumption) | rfl | assumption | (symm; assumption) | (subst_vars; rfl)))) (Eq.trans (id_4 rfl) (Eq.trans (mv_3 rfl) (Eq.trans (id_3 rfl) (Eq.trans (mv_2 rfl) (id_2 rfl)))))))))
          have hP := wr_Pi e9 hP
          have hD := wr_Di e9 hD
          clear e9
          exact W.iret (v := 0) hx hb hr (fun t9_ ht hW => ⟨⟨0, (an, fn, (vi 20), (vi 18), s249_1, p249_1), rfl, by (try dsimp only); exact ⟨hLx, Nat.le_refl _, by (have h9 := f49_1_1); omega, Or.inl f49_1_1⟩, by rw [ht]; exact hP, hD⟩, hS.F ht⟩) hS.2.2 dX12_readSet_53
        · have t_30 : ¬ ((kx24 : Nat) : Int) = -1 := toI_neq c_30 (nI_toInt (by omega)) (by decide)
          refine lv_aload_n hx hb dX12_readSet_33 rfl (lv_at hl 1 rfl) ?_
          refine va_get (D := (dC, dI)) (ci := 12) (v := .ref (a 10)) (C := RX12) (T := TX12) (N := 163) (fs := fM (vS a vi vj)) hx hb hts iwsRX12_readSet_in12 hown hK hP 0 rfl rfl 26 (by decide) (hts (.fieldLink RX12 50 "OptimaWorksModel" "nameKind" "[I") (by decide +kernel)) (fun _ h9 => h9) rfl dX12_readSet_34 ?_
          refine lv_iload_n hx hb dX12_readSet_37 rfl (lv_at hl 0 rfl) ?_
          refine va_iald (cA := k 10) (n := 44) (f := (vF 10)) hx hb hK hP 11 10 (WR_get 10 (by decide)) (TR_get 10 (by decide)) (vp_in_nI (show kx24 < 44 by omega) (by omega)) dX12_readSet_38 ?_
          refine lv_topi (fun y3 hy3 => ?_)
          obtain rfl : ((vF 10) kx24) = y3 := (hy3.trans (by rw [nI_clamp (by omega)])).symm
          refine lv_iconst (v := 1) hx hb dX12_readSet_39 (by decide) ?_
          refine lv_icmp_eq (tgt := 54) hx hb dX12_readSet_40 (by decide) (fun c_40 => ?_) (fun c_40 => ?_)
          · have t_40 : (((vF 10) kx24)).toInt = 1 := toI_eq c_40 rfl (by decide)
            obtain ⟨oS, eoS, hoS, hkA, _⟩ := hNk kx24 (by omega)
            have hfl := hLx.2.2.1.resolve_left (fun h => by rw [h] at c_14; exact absurd c_14 (by decide))
            refine lv_aload_n hx hb dX12_readSet_54 rfl (lv_at hl 1 rfl) ?_
            have hFc := allFree hD hS hA
            refine va_callv (va_runV (As := []) (rest := []) ⟨hx, hb, hml, hown, hts⟩ (r_X12_next l dC dI a k h0 vi vj vF vG tp an hTp (by first | with_reducible assumption | decide | omega | rfl | assumption) ha0 (by first | with_reducible assumption | decide | omega | rfl | assumption) H.size) (cwV 0 hts gwsRX12_readSet_2 rfl rfl rfl hd_yX12_next_RX12 (by decide +kernel)) (fz_preE (va_recv hK hP (ci := 12) (q0 := 0) rfl rfl) hP hK hD (fun a U g mk qE => qE.same rfl) (fun U hU9 hW => by rw [hU9]; exact (((hE : StrA A s s.heap).kept hS.2.1).narrow (fun q h => hFc q h)).warm hW)) rfl rfl hl.1 rfl (lv_room (Nat.le_of_ble_eq_true rfl)) dX12_readSet_55 (by decide +kernel)) hS (fun q _ h => hFc q h) hFc (fun u t9_ H locs ht hvm hw9 hB9 hz1 hk1 hS => ?_)
            revert u hw9 hB9
            refine fz_p4 ?_
            intro a255 f255 sg55 wd55 hw9 hB9
            try dsimp only at hw9 hB9
            have hP : va_P (dC, dI) vwCl (WR a k h0 (fT (fT (fT (fT vi 17 (nI a255)) 19 (nI f255)) 20 sg55) 18 wd55) vj vF vG) H := fz_P ht hB9.1
            have hD := fz_sd hP (hB9.2.weaken (fun _ q _ h => hFc q.1 h)) rfl
            revert hw9
            refine fz_a2 ?_
            intro f55_0 f55_1
            refine lv_aload_n hx hb dX12_readSet_58 rfl (lv_at hl 1 rfl) ?_
            refine va_get (D := (dC, dI)) (ci := 12) (v := .ref (a 13)) (C := RX12) (T := TX12) (N := 163) (fs := fM (vS a (fT (fT (fT (fT vi 17 (nI a255)) 19 (nI f255)) 20 sg55) 18 wd55) vj)) hx hb hts iwsRX12_readSet_in12 hown hK hP 0 rfl rfl 29 (by decide) (hts (.fieldLink RX12 59 "OptimaWorksModel" "nameOf" "[I") (by decide +kernel)) (fun _ h9 => h9) rfl dX12_readSet_59 ?_
            refine lv_iload_n hx hb dX12_readSet_62 rfl (lv_at hl 0 rfl) ?_
            refine va_iald (cA := k 13) (n := 44) (f := (vF 13)) hx hb hK hP 14 13 (WR_get 13 (by decide)) (TR_get 13 (by decide)) (vp_in_nI (show kx24 < 44 by omega) (by omega)) dX12_readSet_63 ?_
            refine lv_topi (fun y4 hy4 => ?_)
            obtain rfl : ((vF 13) kx24) = y4 := (hy4.trans (by rw [nI_clamp (by omega)])).symm
            refine lv_topi (fun y5 hy5 => ?_)
            obtain rfl : (nI oS) = y5 := (hy5.trans (eoS)).symm
            refine W.widen (k := 0) (n := 0) (by decide +kernel) (by decide +kernel) ?_
            have e9 : fT (fT (fT (fT (fT (fT vi 17 (nI a255)) 19 (nI f255)) 20 sg55) 18 wd55) 21 (vi 21)) 22 (vi 22) = fT (fT (fT (fT vi 17 (nI a255)) 19 (nI f255)) 20 sg55) 18 wd55 := (fT_id _ _ ((fT_ne _ _ (Nat.ne_of_beq_eq_false rfl)).trans ((fT_ne _ _ (Nat.ne_of_beq_eq_false rfl)).trans ((fT_ne _ _ (Nat.ne_of_beq_eq_false rfl)).trans ((fT_ne _ _ (Nat.ne_of_beq_eq_false rfl)).trans (fT_ne _ _ (Nat.ne_of_beq_eq_false rfl))))))).trans (fT_id _ _ ((fT_ne _ _ (Nat.ne_of_beq_eq_false rfl)).trans ((fT_ne _ _ (Nat.ne_of_beq_eq_false rfl)).trans ((fT_ne _ _ (Nat.ne_of_beq_eq_false rfl)).trans (fT_ne _ _ (Nat.ne_of_beq_eq_false rfl))))))
            have hP := wr_Pi e9 hP
            have hD := wr_Di e9 hD
            clear e9
            exact W.iret (v := (nI oS)) hx hb hr (fun t9_ ht hW => ⟨⟨(nI oS), (a255, f255, sg55, wd55, (vi 21), (vi 22)), rfl, by (try dsimp only); exact ⟨f55_0, by omega, hst0, Or.inr ⟨i32z (by omega), by omega, oS, hkA c_40, rfl⟩⟩, by rw [ht]; exact hP, hD⟩, hS.F ht⟩) hS.2.2 dX12_readSet_64
          · have t_40 : ¬ (((vF 10) kx24)).toInt = 1 := toI_neq c_40 rfl (by decide)
            refine lv_aload_n hx hb dX12_readSet_43 rfl (lv_at hl 1 rfl) ?_
            refine lv_iconst (v := 3) hx hb dX12_readSet_44 (by decide) ?_
            refine lv_aload_n hx hb dX12_readSet_45 rfl (lv_at hl 1 rfl) ?_
            refine va_get (D := (dC, dI)) (ci := 12) (v := .int (vi 19)) (C := RX12) (T := TX12) (N := 163) (fs := fM (vS a vi vj)) hx hb hts iwsRX12_readSet_in12 hown hK hP 0 rfl rfl 19 (by decide) (hts _ hm_r_X12_readSet_0) (fun _ h9 => h9) rfl dX12_readSet_46 ?_
            refine lv_topi (fun y6 hy6 => ?_)
            obtain rfl : (nI fn) = y6 := (hy6.trans (hfr)).symm
            have hFc := allFree hD hS hA
            refine va_callv (va_runV (As := [.int 3, .int (nI fn)]) (rest := []) ⟨hx, hb, hml, hown, hts⟩ (r_X12_faultAt l dC dI a k h0 vi vj vF vG 3 (nI fn) (by first | with_reducible assumption | decide | omega | rfl | assumption) H.size) (cwV 2 hts gwsRX12_readSet_1 rfl rfl rfl hd_yX12_faultAt_RX12 (by decide +kernel)) (fz_pre (va_recv hK hP (ci := 12) (q0 := 0) rfl rfl) hP hK hD) rfl rfl hl.1 rfl (lv_room (Nat.le_of_ble_eq_true rfl)) dX12_readSet_49 (by decide +kernel)) hS (fun q _ h => hFc q h) hFc (fun u t9_ H locs ht hvm hw9 hB9 hz1 hk1 hS => ?_)
            revert u hw9 hB9
            refine fz_p2 ?_
            intro s249_2 p249_2 hw9 hB9
            try dsimp only at hw9 hB9
            have hP : va_P (dC, dI) vwCl (WR a k h0 (fT (fT vi 21 s249_2) 22 p249_2) vj vF vG) H := fz_P ht hB9.1
            have hD := fz_sd hP (hB9.2.weaken (fun _ q _ h => hFc q.1 h)) rfl
            revert hw9
            refine fz_a2 ?_
            intro f49_2_0 f49_2_1
            have f49_2_0 : (0 < (vi 21).toInt ∧ s249_2 = (vi 21) ∧ p249_2 = (vi 22)) ∨ (¬ 0 < (vi 21).toInt ∧ s249_2 = 3 ∧ p249_2 = (nI fn)) := f49_2_0
            refine lv_iconst (v := 0) hx hb dX12_readSet_52 (by decide) ?_
            refine W.widen (k := 0) (n := 0) (by decide +kernel) (by decide +kernel) ?_
            have e9 : fT (fT (fT (fT (fT (fT vi 17 (nI an)) 19 (nI fn)) 20 (vi 20)) 18 (vi 18)) 21 s249_2) 22 p249_2 = fT (fT vi 21 s249_2) 22 p249_2 := Eq.trans (mv_5 rfl) (Eq.trans (congrArg (fT _ 17) (show nI an = vi 17 from (by first | with_reducible rfl | with_reducible assumption | (symm; with_reducible assumption) | rfl | assumption | (symm; assumption) | (subst_vars; rfl)))) (Eq.trans (id_5 rfl) (Eq.trans (mv_4 rfl) (Eq.trans (congrArg (fT _ 19) (show nI fn = vi 19 from (by first | with_reducible rfl | with_reducible assumption | (symm; with_reducible assumption) | rfl | assumption | (symm; assumption) | (subst_vars; rfl)))) (Eq.trans (id_4 rfl) (Eq.trans (mv_3 rfl) (Eq.trans (id_3 rfl) (Eq.trans (mv_2 rfl) (id_2 rfl)))))))))
            have hP := wr_Pi e9 hP
            have hD := wr_Di e9 hD
            clear e9
            exact W.iret (v := 0) hx hb hr (fun t9_ ht hW => ⟨⟨0, (an, fn, (vi 20), (vi 18), s249_2, p249_2), rfl, by (try dsimp only); exact ⟨hLx, Nat.le_refl _, by (have h9 := f49_2_1); omega, Or.inl f49_2_1⟩, by rw [ht]; exact hP, hD⟩, hS.F ht⟩) hS.2.2 dX12_readSet_53
    · have t_14 : ¬ ((vi 18)).toInt = 1 := toI_neq c_14 rfl (by decide)
      refine lv_aload_n hx hb dX12_readSet_17 rfl (lv_at hl 0 rfl) ?_
      have hFc := allFree hD hS hA
      refine va_callv (va_runV (As := []) (rest := []) ⟨hx, hb, hml, hown, hts⟩ (r_X12_wrong l dC dI a k h0 vi vj vF vG s.heap.size) (cwV 0 hts gwsRX12_readSet_3 rfl rfl rfl hd_yX12_wrong_RX12 (by decide +kernel)) (fz_pre (va_recv hK hP (ci := 12) (q0 := 0) rfl rfl) hP hK hD) rfl rfl hl.1 rfl (lv_room (Nat.le_of_ble_eq_true rfl)) dX12_readSet_18 (by decide +kernel)) hS (fun q _ h => hFc q h) hFc (fun u t9_ H locs ht hvm hw9 hB9 hz1 hk1 hS => ?_)
      revert u hw9 hB9
      refine fz_p2 ?_
      intro s218 p218 hw9 hB9
      try dsimp only at hw9 hB9
      have hP : va_P (dC, dI) vwCl (WR a k h0 (fT (fT vi 21 s218) 22 p218) vj vF vG) H := fz_P ht hB9.1
      have hD := fz_sd hP (hB9.2.weaken (fun _ q _ h => hFc q.1 h)) rfl
      revert hw9
      refine fz_a2 ?_
      intro f18_0 f18_1
      have f18_0 : (0 < (vi 21).toInt ∧ s218 = (vi 21) ∧ p218 = (vi 22)) ∨ (¬ 0 < (vi 21).toInt ∧ (s218 = 1 ∨ s218 = 2) ∧ p218 = (vi 19)) := f18_0
      refine lv_iconst (v := 0) hx hb dX12_readSet_21 (by decide) ?_
      refine W.widen (k := 0) (n := 0) (by decide +kernel) (by decide +kernel) ?_
      have e9 : fT (fT (fT (fT (fT (fT vi 17 (nI an)) 19 (nI fn)) 20 (vi 20)) 18 (vi 18)) 21 s218) 22 p218 = fT (fT vi 21 s218) 22 p218 := Eq.trans (mv_5 rfl) (Eq.trans (congrArg (fT _ 17) (show nI an = vi 17 from (by first | with_reducible rfl | with_reducible assumption | (symm; with_reducible assumption) | rfl | assumption | (symm; assumption) | (subst_vars; rfl)))) (Eq.trans (id_5 rfl) (Eq.trans (mv_4 rfl) (Eq.trans (congrArg (fT _ 19) (show nI fn = vi 19 from (by first | with_reducible rfl | with_reducible assumption | (symm; with_reducible assumption) | rfl | assumption | (symm; assumption) | (subst_vars; rfl)))) (Eq.trans (id_4 rfl) (Eq.trans (mv_3 rfl) (Eq.trans (id_3 rfl) (Eq.trans (mv_2 rfl) (id_2 rfl)))))))))
      have hP := wr_Pi e9 hP
      have hD := wr_Di e9 hD
      clear e9
      exact W.iret (v := 0) hx hb hr (fun t9_ ht hW => ⟨⟨0, (an, fn, (vi 20), (vi 18), s218, p218), rfl, by (try dsimp only); exact ⟨hLx, Nat.le_refl _, by omega, Or.inl f18_1⟩, by rw [ht]; exact hP, hD⟩, hS.F ht⟩) hS.2.2 dX12_readSet_22
  · have t_4 : ¬ ((vi 21)).toInt ≤ 0 := toI_nle c_4 rfl (by decide)
    refine lv_iconst (v := 0) hx hb dX12_readSet_7 (by decide) ?_
    refine W.widen (k := 0) (n := 0) (by decide +kernel) (by decide +kernel) ?_
    have e9 : fT (fT (fT (fT (fT (fT vi 17 (nI an)) 19 (nI fn)) 20 (vi 20)) 18 (vi 18)) 21 (vi 21)) 22 (vi 22) = vi := Eq.trans (mv_5 rfl) (Eq.trans (congrArg (fT _ 17) (show nI an = vi 17 from (by first | with_reducible rfl | with_reducible assumption | (symm; with_reducible assumption) | rfl | assumption | (symm; assumption) | (subst_vars; rfl)))) (Eq.trans (id_5 rfl) (Eq.trans (mv_4 rfl) (Eq.trans (congrArg (fT _ 19) (show nI fn = vi 19 from (by first | with_reducible rfl | with_reducible assumption | (symm; with_reducible assumption) | rfl | assumption | (symm; assumption) | (subst_vars; rfl)))) (Eq.trans (id_4 rfl) (Eq.trans (mv_3 rfl) (Eq.trans (id_3 rfl) (Eq.trans (mv_2 rfl) (Eq.trans (id_2 rfl) (Eq.trans (mv_1 rfl) (Eq.trans (id_1 rfl) (id_0 rfl))))))))))))
    have hP := wr_Pi e9 hP
    have hD := wr_Di e9 hD
    clear e9
    exact W.iret (v := 0) hx hb hr (fun t9_ ht hW => ⟨⟨0, (an, fn, (vi 20), (vi 18), (vi 21), (vi 22)), rfl, by (try dsimp only); exact ⟨hLx, Nat.le_refl _, hst0, Or.inl (by omega)⟩, by rw [ht]; exact hP, hD⟩, hS.F ht⟩) hS.2.2 dX12_readSet_8
theorem dX12_readWhole_0 : decode cX12_readWhole 0 = .ok (.aload_n 0, 1) := dk_42 (by decide +kernel)
theorem dX12_readWhole_1 : decode cX12_readWhole 1 = .ok (.getfield 515, 3) := dk_180 (by decide +kernel)
theorem dX12_readWhole_4 : decode cX12_readWhole 4 = .ok (.ifCond .le 5, 3) := dk_158 (by decide +kernel)
theorem dX12_readWhole_7 : decode cX12_readWhole 7 = .ok (.iconst 0, 1) := dk_3 (by decide +kernel)
theorem dX12_readWhole_8 : decode cX12_readWhole 8 = .ok (.ireturn, 1) := dk_172 (by decide +kernel)
theorem dX12_readWhole_9 : decode cX12_readWhole 9 = .ok (.aload_n 0, 1) := dk_42 (by decide +kernel)
theorem dX12_readWhole_10 : decode cX12_readWhole 10 = .ok (.bipush 45, 2) := dk_16 (by decide +kernel)
theorem dX12_readWhole_12 : decode cX12_readWhole 12 = .ok (.invokevirtual 521, 3) := dk_182 (by decide +kernel)
theorem dX12_readWhole_15 : decode cX12_readWhole 15 = .ok (.istore_n 1, 1) := dk_60 (by decide +kernel)
theorem dX12_readWhole_16 : decode cX12_readWhole 16 = .ok (.iload_n 1, 1) := dk_27 (by decide +kernel)
theorem dX12_readWhole_17 : decode cX12_readWhole 17 = .ok (.ifCond .eq 7, 3) := dk_153 (by decide +kernel)
theorem dX12_readWhole_20 : decode cX12_readWhole 20 = .ok (.aload_n 0, 1) := dk_42 (by decide +kernel)
theorem dX12_readWhole_21 : decode cX12_readWhole 21 = .ok (.invokevirtual 524, 3) := dk_182 (by decide +kernel)
theorem dX12_readWhole_24 : decode cX12_readWhole 24 = .ok (.aload_n 0, 1) := dk_42 (by decide +kernel)
theorem dX12_readWhole_25 : decode cX12_readWhole 25 = .ok (.getfield 494, 3) := dk_180 (by decide +kernel)
theorem dX12_readWhole_28 : decode cX12_readWhole 28 = .ok (.iconst 3, 1) := dk_6 (by decide +kernel)
theorem dX12_readWhole_29 : decode cX12_readWhole 29 = .ok (.if_icmp .eq 9, 3) := dk_159 (by decide +kernel)
theorem dX12_readWhole_32 : decode cX12_readWhole 32 = .ok (.aload_n 0, 1) := dk_42 (by decide +kernel)
theorem dX12_readWhole_33 : decode cX12_readWhole 33 = .ok (.invokevirtual 527, 3) := dk_182 (by decide +kernel)
theorem dX12_readWhole_36 : decode cX12_readWhole 36 = .ok (.iconst 0, 1) := dk_3 (by decide +kernel)
theorem dX12_readWhole_37 : decode cX12_readWhole 37 = .ok (.ireturn, 1) := dk_172 (by decide +kernel)
theorem dX12_readWhole_38 : decode cX12_readWhole 38 = .ok (.iload_n 1, 1) := dk_27 (by decide +kernel)
theorem dX12_readWhole_39 : decode cX12_readWhole 39 = .ok (.ifCond .eq 11, 3) := dk_153 (by decide +kernel)
theorem dX12_readWhole_42 : decode cX12_readWhole 42 = .ok (.aload_n 0, 1) := dk_42 (by decide +kernel)
theorem dX12_readWhole_43 : decode cX12_readWhole 43 = .ok (.getfield 491, 3) := dk_180 (by decide +kernel)
theorem dX12_readWhole_46 : decode cX12_readWhole 46 = .ok (.ineg, 1) := dk_116 (by decide +kernel)
theorem dX12_readWhole_47 : decode cX12_readWhole 47 = .ok (.goto 7, 3) := dk_167 (by decide +kernel)
theorem dX12_readWhole_50 : decode cX12_readWhole 50 = .ok (.aload_n 0, 1) := dk_42 (by decide +kernel)
theorem dX12_readWhole_51 : decode cX12_readWhole 51 = .ok (.getfield 491, 3) := dk_180 (by decide +kernel)
theorem dX12_readWhole_54 : decode cX12_readWhole 54 = .ok (.istore_n 2, 1) := dk_61 (by decide +kernel)
theorem dX12_readWhole_55 : decode cX12_readWhole 55 = .ok (.aload_n 0, 1) := dk_42 (by decide +kernel)
theorem dX12_readWhole_56 : decode cX12_readWhole 56 = .ok (.invokevirtual 524, 3) := dk_182 (by decide +kernel)
theorem dX12_readWhole_59 : decode cX12_readWhole 59 = .ok (.iload_n 2, 1) := dk_28 (by decide +kernel)
theorem dX12_readWhole_60 : decode cX12_readWhole 60 = .ok (.ireturn, 1) := dk_172 (by decide +kernel)
def wsRX12_readWhole : List Cond := .code yX12_readWhole cX12_readWhole 3 (some .int) :: ([.fieldLink RX12 515 "OptimaWorksModel" "stop" "I", .fieldLink RX12 494 "OptimaWorksModel" "word" "I", .fieldLink RX12 491 "OptimaWorksModel" "sign0" "I"] ++ wsX120 ++ (wsV RX12 521 RX12 yX12_isSign wsRX12_isSign) ++ (wsV RX12 524 RX12 yX12_next wsRX12_next) ++ (wsV RX12 527 RX12 yX12_wrong wsRX12_wrong))
theorem iwsRX12_readWhole_in12 : ∀ w ∈ wsX120, w ∈ wsRX12_readWhole := fun _ h => List.mem_cons_of_mem _ (List.mem_append_left _ (List.mem_append_left _ (List.mem_append_left _ (List.mem_append_right _ h))))
theorem gwsRX12_readWhole_0 : GoodIn wsRX12_readWhole (wsV RX12 521 RX12 yX12_isSign wsRX12_isSign) := goodIn_sub (fun _ h => List.mem_cons_of_mem _ (List.mem_append_left _ (List.mem_append_left _ (List.mem_append_right _ h)))) (gdV (by decide +kernel) gdwsRX12_isSign)
theorem gwsRX12_readWhole_1 : GoodIn wsRX12_readWhole (wsV RX12 524 RX12 yX12_next wsRX12_next) := goodIn_sub (fun _ h => List.mem_cons_of_mem _ (List.mem_append_left _ (List.mem_append_right _ h))) (gdV (by decide +kernel) gdwsRX12_next)
theorem gwsRX12_readWhole_2 : GoodIn wsRX12_readWhole (wsV RX12 527 RX12 yX12_wrong wsRX12_wrong) := goodIn_sub (fun _ h => List.mem_cons_of_mem _ (List.mem_append_right _ h)) (gdV (by decide +kernel) gdwsRX12_wrong)
theorem gdwsRX12_readWhole : wsRX12_readWhole.all goodWord = true := gdC rfl (gdA (gdA (gdA (gdA (by decide +kernel : ([.fieldLink RX12 515 "OptimaWorksModel" "stop" "I", .fieldLink RX12 494 "OptimaWorksModel" "word" "I", .fieldLink RX12 491 "OptimaWorksModel" "sign0" "I"] : List Cond).all goodWord = true) gdwsX120) (gdV (by decide +kernel) gdwsRX12_isSign)) (gdV (by decide +kernel) gdwsRX12_next)) (gdV (by decide +kernel) gdwsRX12_wrong))
theorem hm_r_X12_readWhole_0 : (.fieldLink RX12 494 "OptimaWorksModel" "word" "I" : Cond) ∈ wsRX12_readWhole := by decide +kernel
theorem hm_r_X12_readWhole_1 : (.fieldLink RX12 491 "OptimaWorksModel" "sign0" "I" : Cond) ∈ wsRX12_readWhole := by decide +kernel
set_option maxHeartbeats 4000000 in
set_option maxRecDepth 100000 in
/-- readWhole() -/
theorem r_X12_readWhole (l : Launch) (dC : Nat → ClassId) (dI : Nat → Nat → Nat) (a : Nat → Nat) (k : Nat → ClassId) (h0 : Nat) (vi : Nat → Int32) (vj : Nat → Int64) (vF : Nat → Nat → Int32) (vG : Nat → Nat → Int64) (tp : Nat) (an : Nat) (fn : Nat) (hTp : vi 16 = nI tp) (htp : tp ≤ 4000) (ha0 : vi 17 = nI an) (hfr : vi 19 = nI fn) (hLx : LxO tp fn an (vi 18) (vi 20)) (hst0 : 0 ≤ (vi 21).toInt) (sz : Nat) : Met l yX12_readWhole wsRX12_readWhole ({ frames := 8, cells := 0, slots := 0, locals := 173 }) (va_Pc [.ref h0] (fun U => U.heap.size = sz ∧ va_P (dC, dI) vwCl (WR a k h0 vi vj vF vG) U.heap ∧ va_K (dC, dI) vwCl (tX12 k) U ∧ va_D (fun _ => True) (WR a k h0 vi vj vF vG) ∧ StrA (va_A (WR a k h0 vi vj vF vG) sz) U U.heap)) (va_Qi (fun (r : Int32) (u : (Nat) × (Nat) × (Int32) × (Int32) × (Int32) × (Int32)) => (LxO tp (u.2.1) (u.1) (u.2.2.2.1) (u.2.2.1)) ∧ (fn ≤ (u.2.1)) ∧ (0 ≤ ((u.2.2.2.2.1)).toInt) ∧ (-999999 ≤ (r).toInt ∧ (r).toInt ≤ 999999) ∧ (0 < ((u.2.2.2.2.1)).toInt ∨ vi 21 = 0)) (fun (u : (Nat) × (Nat) × (Int32) × (Int32) × (Int32) × (Int32)) t => va_P (dC, dI) vwCl (WR a k h0 (fT (fT (fT (fT (fT (fT vi 17 (nI (u.1))) 19 (nI (u.2.1))) 18 (u.2.2.2.1)) 20 (u.2.2.1)) 21 (u.2.2.2.2.1)) 22 (u.2.2.2.2.2)) vj vF vG) t.heap ∧ va_D (va_A (WR a k h0 vi vj vF vG) sz) (WR a k h0 (fT (fT (fT (fT (fT (fT vi 17 (nI (u.1))) 19 (nI (u.2.1))) 18 (u.2.2.2.1)) 20 (u.2.2.1)) 21 (u.2.2.2.2.1)) 22 (u.2.2.2.2.2)) vj vF vG)) (va_A (WR a k h0 vi vj vF vG) sz)) 0 0 (va_A (WR a k h0 vi vj vF vG) sz) := by
  refine Met.ofW (cc := cX12_readWhole) (maxL := 3) (ret := (some .int)) (by decide) rfl ?_
  intro p e s m args below meth c s₁ B hml hv
  obtain ⟨rfl, hsz, hP, hK, hD0, hE⟩ := hv
  have hx := B.exec
  have hb := B.bytes
  have hr := B.returns
  have hts := atoms_spec (ws := wsRX12_readWhole) B.pre
  have hown : s.vm.findClass RX12 = some m.cls := findClass_of_methodNamed B.named
  have hlocks := B.notSynchronized
  subst hsz
  have hD := hD0.self (sz := s.heap.size)
  generalize hAe : va_A (WR a k h0 vi vj vF vG) s.heap.size = A at hD hE ⊢
  have hA : ∀ q : Nat, s.heap.size ≤ q → A q := fun q h => by rw [← hAe]; exact Or.inr h
  have hS : va_S A s.heap s.heap [] := va_S.rf
  have hl := lv_entry ([.ref h0]) (n := 3) (Nat.le_of_ble_eq_true rfl)
  rw [lg_entry_eq]
  generalize (lg_sl ([.ref h0]) ++ List.replicate (3 - (lg_sl ([.ref h0])).length) Slot.unset).toArray = ls at hl ⊢
  have hl : lv_has ls 3 [(0, .ref h0)] := hl
  have hfa := hLx.1
  have han := hLx.2.1
  have han4 : an ≤ 4000 := by omega
  refine lv_aload_n hx hb dX12_readWhole_0 rfl (lv_at hl 0 rfl) ?_
  refine va_get (D := (dC, dI)) (ci := 12) (v := .int (vi 21)) (C := RX12) (T := TX12) (N := 163) (fs := fM (vS a vi vj)) hx hb hts iwsRX12_readWhole_in12 hown hK hP 0 rfl rfl 21 (by decide) (hts (.fieldLink RX12 515 "OptimaWorksModel" "stop" "I") (by decide +kernel)) (fun _ h9 => h9) rfl dX12_readWhole_1 ?_
  refine lv_if_le (tgt := 9) hx hb dX12_readWhole_4 (by decide) (fun c_4 => ?_) (fun c_4 => ?_)
  · have t_4 : ((vi 21)).toInt ≤ 0 := toI_le c_4 rfl (by decide)
    refine lv_aload_n hx hb dX12_readWhole_9 rfl (lv_at hl 0 rfl) ?_
    refine lv_bipush (v := 45) hx hb dX12_readWhole_10 (by decide) ?_
    have hFc := allFree hD hS hA
    refine va_calli (va_runV (As := [.int 45]) (rest := []) ⟨hx, hb, hml, hown, hts⟩ (r_X12_isSign l dC dI a k h0 vi vj vF vG 45 s.heap.size) (cwV 1 hts gwsRX12_readWhole_0 rfl rfl rfl hd_yX12_isSign_RX12 (by decide +kernel)) (fz_pre (va_recv hK hP (ci := 12) (q0 := 0) rfl rfl) hP hK hD) rfl rfl hl.1 rfl (lv_room (Nat.le_of_ble_eq_true rfl)) dX12_readWhole_12 (by decide +kernel)) hS (fun q _ h => hFc q h) hFc (fun r12 u t9_ H locs ht hvm hw9 hB9 hz1 hk1 hS => ?_)
    have hP : va_P (dC, dI) vwCl (WR a k h0 vi vj vF vG) H := fz_P ht hB9.1
    have hD := fz_sd hP (hB9.2.weaken (fun _ q _ h => hFc q.1 h)) rfl
    rcases hw9 with ⟨rfl, f12_0, f12_1⟩ | ⟨rfl, f12_0⟩
    · have f12_0 : (vi 18).toInt = 4 := f12_0
      have f12_1 : (vi 20) = 45 := f12_1
      refine lv_istore_n hx hb dX12_readWhole_15 rfl hl (by decide) rfl (fun ls (hl : lv_has ls _ ([(1, .int 1), (0, .ref h0)])) => ?_)
      refine lv_iload_n hx hb dX12_readWhole_16 rfl (lv_at hl 0 rfl) ?_
      refine W.cut (pc := 24) (fun H locs ls stk => ∃ (a3 : Nat) (f3 : Nat) (w3 : Int32) (g3 : Int32), (LxO tp f3 a3 w3 g3) ∧ (fn ≤ f3) ∧  stk = [] ∧ va_P (dC, dI) vwCl (WR a k h0 (fT (fT (fT (fT vi 17 (nI a3)) 19 (nI f3)) 18 w3) 20 g3) vj vF vG) H ∧ va_D A (WR a k h0 (fT (fT (fT (fT vi 17 (nI a3)) 19 (nI f3)) 18 w3) 20 g3) vj vF vG) ∧ va_S A s.heap H locs ∧ lv_has ls 3 [(1, .int 1), (0, .ref h0)]) (fun join1 => ?_) ?_
      · refine lv_if_eq (tgt := 24) hx hb dX12_readWhole_17 (by decide) (fun c9 => absurd c9 (by decide)) (fun _ => ?_)
        refine lv_aload_n hx hb dX12_readWhole_20 rfl (lv_at hl 1 rfl) ?_
        have hFc := allFree hD hS hA
        refine va_callv (va_runV (As := []) (rest := []) ⟨hx, hb, hml, hown, hts⟩ (r_X12_next l dC dI a k h0 vi vj vF vG tp an hTp (by first | with_reducible assumption | decide | omega | rfl | assumption) ha0 (by first | with_reducible assumption | decide | omega | rfl | assumption) H.size) (cwV 0 hts gwsRX12_readWhole_1 rfl rfl rfl hd_yX12_next_RX12 (by decide +kernel)) (fz_preE (va_recv hK hP (ci := 12) (q0 := 0) rfl rfl) hP hK hD (fun a U g mk qE => qE.same rfl) (fun U hU9 hW => by rw [hU9]; exact (((hE : StrA A s s.heap).kept hS.2.1).narrow (fun q h => hFc q h)).warm hW)) rfl rfl hl.1 rfl (lv_room (Nat.le_of_ble_eq_true rfl)) dX12_readWhole_21 (by decide +kernel)) hS (fun q _ h => hFc q h) hFc (fun u t9_ H locs ht hvm hw9 hB9 hz1 hk1 hS => ?_)
        revert u hw9 hB9
        refine fz_p4 ?_
        intro a221 f221 sg21 wd21 hw9 hB9
        try dsimp only at hw9 hB9
        have hP : va_P (dC, dI) vwCl (WR a k h0 (fT (fT (fT (fT vi 17 (nI a221)) 19 (nI f221)) 20 sg21) 18 wd21) vj vF vG) H := fz_P ht hB9.1
        have hD := fz_sd hP (hB9.2.weaken (fun _ q _ h => hFc q.1 h)) rfl
        revert hw9
        refine fz_a2 ?_
        intro f21_0 f21_1
        have e9 : fT (fT (fT (fT vi 17 (nI a221)) 19 (nI f221)) 18 wd21) 20 sg21 = fT (fT (fT (fT vi 17 (nI a221)) 19 (nI f221)) 20 sg21) 18 wd21 := mv_1 rfl
        have hP := wr_Pi e9 hP
        have hD := wr_Di e9 hD
        clear e9
        have hl : lv_has _ _ ([(1, .int 1), (0, .ref h0)]) := lv_sub hl [0, 1] rfl
        exact join1 _ _ _ _ ⟨a221, f221, wd21, sg21, f21_0, by (have h9 := f21_1); omega, rfl, hP, hD, hS, hl⟩
      · rintro H locs ls stk ⟨a3, f3, w3, g3, hLx3, hf3, rfl, hP, hD, hS, hl⟩
        have ha3 := hLx3.1
        have hb3 := hLx3.2.1
        refine lv_aload_n hx hb dX12_readWhole_24 rfl (lv_at hl 1 rfl) ?_
        refine va_get (D := (dC, dI)) (ci := 12) (v := .int w3) (C := RX12) (T := TX12) (N := 163) (fs := fM (vS a (fT (fT (fT (fT vi 17 (nI a3)) 19 (nI f3)) 18 w3) 20 g3) vj)) hx hb hts iwsRX12_readWhole_in12 hown hK hP 0 rfl rfl 18 (by decide) (hts _ hm_r_X12_readWhole_0) (fun _ h9 => h9) rfl dX12_readWhole_25 ?_
        refine lv_iconst (v := 3) hx hb dX12_readWhole_28 (by decide) ?_
        refine lv_icmp_eq (tgt := 38) hx hb dX12_readWhole_29 (by decide) (fun c_29 => ?_) (fun c_29 => ?_)
        · have t_29 : (w3).toInt = 3 := toI_eq c_29 rfl (by decide)
          have hnu := hLx3.2.2.2 c_29
          refine lv_iload_n hx hb dX12_readWhole_38 rfl (lv_at hl 0 rfl) ?_
          refine W.cut (pc := 54) (fun H locs ls stk => ∃ (v9 : Int32), (-999999 ≤ (v9).toInt ∧ (v9).toInt ≤ 999999) ∧  stk = [.int v9] ∧ va_P (dC, dI) vwCl (WR a k h0 (fT (fT (fT (fT vi 17 (nI a3)) 19 (nI f3)) 18 w3) 20 g3) vj vF vG) H ∧ va_D A (WR a k h0 (fT (fT (fT (fT vi 17 (nI a3)) 19 (nI f3)) 18 w3) 20 g3) vj vF vG) ∧ va_S A s.heap H locs ∧ lv_has ls 3 [(1, .int 1), (0, .ref h0)]) (fun join2 => ?_) ?_
          · refine lv_if_eq (tgt := 50) hx hb dX12_readWhole_39 (by decide) (fun c9 => absurd c9 (by decide)) (fun _ => ?_)
            refine lv_aload_n hx hb dX12_readWhole_42 rfl (lv_at hl 1 rfl) ?_
            refine va_get (D := (dC, dI)) (ci := 12) (v := .int g3) (C := RX12) (T := TX12) (N := 163) (fs := fM (vS a (fT (fT (fT (fT vi 17 (nI a3)) 19 (nI f3)) 18 w3) 20 g3) vj)) hx hb hts iwsRX12_readWhole_in12 hown hK hP 0 rfl rfl 20 (by decide) (hts _ hm_r_X12_readWhole_1) (fun _ h9 => h9) rfl dX12_readWhole_43 ?_
            refine lv_ineg hx hb dX12_readWhole_46 ?_
            refine lv_goto (tgt := 54) hx hb dX12_readWhole_47 (by decide) ?_
            have hl : lv_has _ _ ([(1, .int 1), (0, .ref h0)]) := lv_sub hl [0, 1] rfl
            exact join2 _ _ _ _ ⟨(-g3), by (have h9 := neg32 (x := g3) (b := 999999) (by omega) (by decide)); omega, rfl, hP, hD, hS, hl⟩
          · rintro H locs ls stk ⟨v9, hv9, rfl, hP, hD, hS, hl⟩
            refine lv_istore_n hx hb dX12_readWhole_54 rfl hl (by decide) rfl (fun ls (hl : lv_has ls _ ([(2, .int v9), (1, .int 1), (0, .ref h0)])) => ?_)
            refine lv_aload_n hx hb dX12_readWhole_55 rfl (lv_at hl 2 rfl) ?_
            have hFc := allFree hD hS hA
            refine va_callv (va_runV (As := []) (rest := []) ⟨hx, hb, hml, hown, hts⟩ (r_X12_next l dC dI a k h0 (fT (fT (fT (fT vi 17 (nI a3)) 19 (nI f3)) 18 w3) 20 g3) vj vF vG tp a3 hTp (by first | with_reducible assumption | decide | omega | rfl | assumption) rfl (by first | with_reducible assumption | decide | omega | rfl | assumption) H.size) (cwV 0 hts gwsRX12_readWhole_1 rfl rfl rfl hd_yX12_next_RX12 (by decide +kernel)) (fz_preE (va_recv hK hP (ci := 12) (q0 := 0) rfl rfl) hP hK hD (fun a U g mk qE => qE.same rfl) (fun U hU9 hW => by rw [hU9]; exact (((hE : StrA A s s.heap).kept hS.2.1).narrow (fun q h => hFc q h)).warm hW)) rfl rfl hl.1 rfl (lv_room (Nat.le_of_ble_eq_true rfl)) dX12_readWhole_56 (by decide +kernel)) hS (fun q _ h => hFc q h) hFc (fun u t9_ H locs ht hvm hw9 hB9 hz1 hk1 hS => ?_)
            revert u hw9 hB9
            refine fz_p4 ?_
            intro a256 f256 sg56 wd56 hw9 hB9
            try dsimp only at hw9 hB9
            have e9i : fT (fT (fT (fT vi 17 (nI a256)) 19 (nI f256)) 18 wd56) 20 sg56 = fT (fT (fT (fT (fT (fT (fT (fT vi 17 (nI a3)) 19 (nI f3)) 18 w3) 20 g3) 17 (nI a256)) 19 (nI f256)) 20 sg56) 18 wd56 := Eq.symm (Eq.trans (congrArg (fun g9 => fT g9 18 wd56) (Eq.trans (congrArg (fun g9 => fT g9 20 sg56) (Eq.trans (congrArg (fun g9 => fT g9 19 (nI f256)) (up_3 rfl)) (up_2 rfl))) (up_0 rfl))) (up_1 rfl))
            have hP := wr_Pi e9i (fz_P ht hB9.1)
            have hD := wr_Di e9i (hB9.2.weaken (fun _ q _ h => hFc q.1 h))
            clear e9i
            revert hw9
            refine fz_a2 ?_
            intro f56_0 f56_1
            refine lv_iload_n hx hb dX12_readWhole_59 rfl (lv_at hl 0 rfl) ?_
            refine W.widen (k := 0) (n := 0) (by decide +kernel) (by decide +kernel) ?_
            have e9 : fT (fT (fT (fT (fT (fT vi 17 (nI a256)) 19 (nI f256)) 18 wd56) 20 sg56) 21 (vi 21)) 22 (vi 22) = fT (fT (fT (fT vi 17 (nI a256)) 19 (nI f256)) 18 wd56) 20 sg56 := (fT_id _ _ ((fT_ne _ _ (Nat.ne_of_beq_eq_false rfl)).trans ((fT_ne _ _ (Nat.ne_of_beq_eq_false rfl)).trans ((fT_ne _ _ (Nat.ne_of_beq_eq_false rfl)).trans ((fT_ne _ _ (Nat.ne_of_beq_eq_false rfl)).trans (fT_ne _ _ (Nat.ne_of_beq_eq_false rfl))))))).trans (fT_id _ _ ((fT_ne _ _ (Nat.ne_of_beq_eq_false rfl)).trans ((fT_ne _ _ (Nat.ne_of_beq_eq_false rfl)).trans ((fT_ne _ _ (Nat.ne_of_beq_eq_false rfl)).trans (fT_ne _ _ (Nat.ne_of_beq_eq_false rfl))))))
            have hP := wr_Pi e9 hP
            have hD := wr_Di e9 hD
            clear e9
            exact W.iret (v := v9) hx hb hr (fun t9_ ht hW => ⟨⟨v9, (a256, f256, sg56, wd56, (vi 21), (vi 22)), rfl, by (try dsimp only); exact ⟨f56_0, by omega, hst0, hv9, Or.inr (i32z (by omega))⟩, by rw [ht]; exact hP, hD⟩, hS.F ht⟩) hS.2.2 dX12_readWhole_60
        · have t_29 : ¬ (w3).toInt = 3 := toI_neq c_29 rfl (by decide)
          refine lv_aload_n hx hb dX12_readWhole_32 rfl (lv_at hl 1 rfl) ?_
          have hFc := allFree hD hS hA
          refine va_callv (va_runV (As := []) (rest := []) ⟨hx, hb, hml, hown, hts⟩ (r_X12_wrong l dC dI a k h0 (fT (fT (fT (fT vi 17 (nI a3)) 19 (nI f3)) 18 w3) 20 g3) vj vF vG H.size) (cwV 0 hts gwsRX12_readWhole_2 rfl rfl rfl hd_yX12_wrong_RX12 (by decide +kernel)) (fz_pre (va_recv hK hP (ci := 12) (q0 := 0) rfl rfl) hP hK hD) rfl rfl hl.1 rfl (lv_room (Nat.le_of_ble_eq_true rfl)) dX12_readWhole_33 (by decide +kernel)) hS (fun q _ h => hFc q h) hFc (fun u t9_ H locs ht hvm hw9 hB9 hz1 hk1 hS => ?_)
          revert u hw9 hB9
          refine fz_p2 ?_
          intro s233 p233 hw9 hB9
          try dsimp only at hw9 hB9
          have hP : va_P (dC, dI) vwCl (WR a k h0 (fT (fT (fT (fT (fT (fT vi 17 (nI a3)) 19 (nI f3)) 18 w3) 20 g3) 21 s233) 22 p233) vj vF vG) H := fz_P ht hB9.1
          have hD := fz_sd hP (hB9.2.weaken (fun _ q _ h => hFc q.1 h)) rfl
          revert hw9
          refine fz_a2 ?_
          intro f33_0 f33_1
          have f33_0 : (0 < (vi 21).toInt ∧ s233 = (vi 21) ∧ p233 = (vi 22)) ∨ (¬ 0 < (vi 21).toInt ∧ (s233 = 1 ∨ s233 = 2) ∧ p233 = (nI f3)) := f33_0
          refine lv_iconst (v := 0) hx hb dX12_readWhole_36 (by decide) ?_
          refine W.widen (k := 0) (n := 0) (by decide +kernel) (by decide +kernel) ?_
          exact W.iret (v := 0) hx hb hr (fun t9_ ht hW => ⟨⟨0, (a3, f3, g3, w3, s233, p233), rfl, by (try dsimp only); exact ⟨hLx3, by omega, by omega, by decide, Or.inl (by omega)⟩, by rw [ht]; exact hP, hD⟩, hS.F ht⟩) hS.2.2 dX12_readWhole_37
    · have f12_0 : ¬ ((vi 18).toInt = 4 ∧ (vi 20) = 45) := f12_0
      refine lv_istore_n hx hb dX12_readWhole_15 rfl hl (by decide) rfl (fun ls (hl : lv_has ls _ ([(1, .int 0), (0, .ref h0)])) => ?_)
      refine lv_iload_n hx hb dX12_readWhole_16 rfl (lv_at hl 0 rfl) ?_
      refine W.cut (pc := 24) (fun H locs ls stk => ∃ (a3 : Nat) (f3 : Nat) (w3 : Int32) (g3 : Int32), (LxO tp f3 a3 w3 g3) ∧ (fn ≤ f3) ∧  stk = [] ∧ va_P (dC, dI) vwCl (WR a k h0 (fT (fT (fT (fT vi 17 (nI a3)) 19 (nI f3)) 18 w3) 20 g3) vj vF vG) H ∧ va_D A (WR a k h0 (fT (fT (fT (fT vi 17 (nI a3)) 19 (nI f3)) 18 w3) 20 g3) vj vF vG) ∧ va_S A s.heap H locs ∧ lv_has ls 3 [(1, .int 0), (0, .ref h0)]) (fun join3 => ?_) ?_
      · refine lv_if_eq (tgt := 24) hx hb dX12_readWhole_17 (by decide) (fun _ => ?_) (fun c9 => absurd (by decide) c9)
        have e9 : fT (fT (fT (fT vi 17 (nI an)) 19 (nI fn)) 18 (vi 18)) 20 (vi 20) = vi := Eq.trans (mv_3 rfl) (Eq.trans (congrArg (fT _ 17) (show nI an = vi 17 from (by first | with_reducible rfl | with_reducible assumption | (symm; with_reducible assumption) | rfl | assumption | (symm; assumption) | (subst_vars; rfl)))) (Eq.trans (id_3 rfl) (Eq.trans (mv_2 rfl) (Eq.trans (congrArg (fT _ 19) (show nI fn = vi 19 from (by first | with_reducible rfl | with_reducible assumption | (symm; with_reducible assumption) | rfl | assumption | (symm; assumption) | (subst_vars; rfl)))) (Eq.trans (id_2 rfl) (Eq.trans (mv_1 rfl) (Eq.trans (id_1 rfl) (id_0 rfl))))))))
        have hP := wr_Pi e9 hP
        have hD := wr_Di e9 hD
        clear e9
        have hl : lv_has _ _ ([(1, .int 0), (0, .ref h0)]) := lv_sub hl [0, 1] rfl
        exact join3 _ _ _ _ ⟨an, fn, (vi 18), (vi 20), hLx, Nat.le_refl _, rfl, hP, hD, hS, hl⟩
      · rintro H locs ls stk ⟨a3, f3, w3, g3, hLx3, hf3, rfl, hP, hD, hS, hl⟩
        have ha3 := hLx3.1
        have hb3 := hLx3.2.1
        refine lv_aload_n hx hb dX12_readWhole_24 rfl (lv_at hl 1 rfl) ?_
        refine va_get (D := (dC, dI)) (ci := 12) (v := .int w3) (C := RX12) (T := TX12) (N := 163) (fs := fM (vS a (fT (fT (fT (fT vi 17 (nI a3)) 19 (nI f3)) 18 w3) 20 g3) vj)) hx hb hts iwsRX12_readWhole_in12 hown hK hP 0 rfl rfl 18 (by decide) (hts _ hm_r_X12_readWhole_0) (fun _ h9 => h9) rfl dX12_readWhole_25 ?_
        refine lv_iconst (v := 3) hx hb dX12_readWhole_28 (by decide) ?_
        refine lv_icmp_eq (tgt := 38) hx hb dX12_readWhole_29 (by decide) (fun c_29 => ?_) (fun c_29 => ?_)
        · have t_29 : (w3).toInt = 3 := toI_eq c_29 rfl (by decide)
          have hnu := hLx3.2.2.2 c_29
          refine lv_iload_n hx hb dX12_readWhole_38 rfl (lv_at hl 0 rfl) ?_
          refine W.cut (pc := 54) (fun H locs ls stk => ∃ (v9 : Int32), (-999999 ≤ (v9).toInt ∧ (v9).toInt ≤ 999999) ∧  stk = [.int v9] ∧ va_P (dC, dI) vwCl (WR a k h0 (fT (fT (fT (fT vi 17 (nI a3)) 19 (nI f3)) 18 w3) 20 g3) vj vF vG) H ∧ va_D A (WR a k h0 (fT (fT (fT (fT vi 17 (nI a3)) 19 (nI f3)) 18 w3) 20 g3) vj vF vG) ∧ va_S A s.heap H locs ∧ lv_has ls 3 [(1, .int 0), (0, .ref h0)]) (fun join4 => ?_) ?_
          · refine lv_if_eq (tgt := 50) hx hb dX12_readWhole_39 (by decide) (fun _ => ?_) (fun c9 => absurd (by decide) c9)
            refine lv_aload_n hx hb dX12_readWhole_50 rfl (lv_at hl 1 rfl) ?_
            refine va_get (D := (dC, dI)) (ci := 12) (v := .int g3) (C := RX12) (T := TX12) (N := 163) (fs := fM (vS a (fT (fT (fT (fT vi 17 (nI a3)) 19 (nI f3)) 18 w3) 20 g3) vj)) hx hb hts iwsRX12_readWhole_in12 hown hK hP 0 rfl rfl 20 (by decide) (hts _ hm_r_X12_readWhole_1) (fun _ h9 => h9) rfl dX12_readWhole_51 ?_
            have hl : lv_has _ _ ([(1, .int 0), (0, .ref h0)]) := lv_sub hl [0, 1] rfl
            exact join4 _ _ _ _ ⟨g3, by (have h9 := neg32 (x := g3) (b := 999999) (by omega) (by decide)); omega, rfl, hP, hD, hS, hl⟩
          · rintro H locs ls stk ⟨v9, hv9, rfl, hP, hD, hS, hl⟩
            refine lv_istore_n hx hb dX12_readWhole_54 rfl hl (by decide) rfl (fun ls (hl : lv_has ls _ ([(2, .int v9), (1, .int 0), (0, .ref h0)])) => ?_)
            refine lv_aload_n hx hb dX12_readWhole_55 rfl (lv_at hl 2 rfl) ?_
            have hFc := allFree hD hS hA
            refine va_callv (va_runV (As := []) (rest := []) ⟨hx, hb, hml, hown, hts⟩ (r_X12_next l dC dI a k h0 (fT (fT (fT (fT vi 17 (nI a3)) 19 (nI f3)) 18 w3) 20 g3) vj vF vG tp a3 hTp (by first | with_reducible assumption | decide | omega | rfl | assumption) rfl (by first | with_reducible assumption | decide | omega | rfl | assumption) H.size) (cwV 0 hts gwsRX12_readWhole_1 rfl rfl rfl hd_yX12_next_RX12 (by decide +kernel)) (fz_preE (va_recv hK hP (ci := 12) (q0 := 0) rfl rfl) hP hK hD (fun a U g mk qE => qE.same rfl) (fun U hU9 hW => by rw [hU9]; exact (((hE : StrA A s s.heap).kept hS.2.1).narrow (fun q h => hFc q h)).warm hW)) rfl rfl hl.1 rfl (lv_room (Nat.le_of_ble_eq_true rfl)) dX12_readWhole_56 (by decide +kernel)) hS (fun q _ h => hFc q h) hFc (fun u t9_ H locs ht hvm hw9 hB9 hz1 hk1 hS => ?_)
            revert u hw9 hB9
            refine fz_p4 ?_
            intro a256_1 f256_1 sg56_1 wd56_1 hw9 hB9
            try dsimp only at hw9 hB9
            have e9i : fT (fT (fT (fT vi 17 (nI a256_1)) 19 (nI f256_1)) 18 wd56_1) 20 sg56_1 = fT (fT (fT (fT (fT (fT (fT (fT vi 17 (nI a3)) 19 (nI f3)) 18 w3) 20 g3) 17 (nI a256_1)) 19 (nI f256_1)) 20 sg56_1) 18 wd56_1 := Eq.symm (Eq.trans (congrArg (fun g9 => fT g9 18 wd56_1) (Eq.trans (congrArg (fun g9 => fT g9 20 sg56_1) (Eq.trans (congrArg (fun g9 => fT g9 19 (nI f256_1)) (up_3 rfl)) (up_2 rfl))) (up_0 rfl))) (up_1 rfl))
            have hP := wr_Pi e9i (fz_P ht hB9.1)
            have hD := wr_Di e9i (hB9.2.weaken (fun _ q _ h => hFc q.1 h))
            clear e9i
            revert hw9
            refine fz_a2 ?_
            intro f56_1_0 f56_1_1
            refine lv_iload_n hx hb dX12_readWhole_59 rfl (lv_at hl 0 rfl) ?_
            refine W.widen (k := 0) (n := 0) (by decide +kernel) (by decide +kernel) ?_
            have e9 : fT (fT (fT (fT (fT (fT vi 17 (nI a256_1)) 19 (nI f256_1)) 18 wd56_1) 20 sg56_1) 21 (vi 21)) 22 (vi 22) = fT (fT (fT (fT vi 17 (nI a256_1)) 19 (nI f256_1)) 18 wd56_1) 20 sg56_1 := (fT_id _ _ ((fT_ne _ _ (Nat.ne_of_beq_eq_false rfl)).trans ((fT_ne _ _ (Nat.ne_of_beq_eq_false rfl)).trans ((fT_ne _ _ (Nat.ne_of_beq_eq_false rfl)).trans ((fT_ne _ _ (Nat.ne_of_beq_eq_false rfl)).trans (fT_ne _ _ (Nat.ne_of_beq_eq_false rfl))))))).trans (fT_id _ _ ((fT_ne _ _ (Nat.ne_of_beq_eq_false rfl)).trans ((fT_ne _ _ (Nat.ne_of_beq_eq_false rfl)).trans ((fT_ne _ _ (Nat.ne_of_beq_eq_false rfl)).trans (fT_ne _ _ (Nat.ne_of_beq_eq_false rfl))))))
            have hP := wr_Pi e9 hP
            have hD := wr_Di e9 hD
            clear e9
            exact W.iret (v := v9) hx hb hr (fun t9_ ht hW => ⟨⟨v9, (a256_1, f256_1, sg56_1, wd56_1, (vi 21), (vi 22)), rfl, by (try dsimp only); exact ⟨f56_1_0, by omega, hst0, hv9, Or.inr (i32z (by omega))⟩, by rw [ht]; exact hP, hD⟩, hS.F ht⟩) hS.2.2 dX12_readWhole_60
        · have t_29 : ¬ (w3).toInt = 3 := toI_neq c_29 rfl (by decide)
          refine lv_aload_n hx hb dX12_readWhole_32 rfl (lv_at hl 1 rfl) ?_
          have hFc := allFree hD hS hA
          refine va_callv (va_runV (As := []) (rest := []) ⟨hx, hb, hml, hown, hts⟩ (r_X12_wrong l dC dI a k h0 (fT (fT (fT (fT vi 17 (nI a3)) 19 (nI f3)) 18 w3) 20 g3) vj vF vG H.size) (cwV 0 hts gwsRX12_readWhole_2 rfl rfl rfl hd_yX12_wrong_RX12 (by decide +kernel)) (fz_pre (va_recv hK hP (ci := 12) (q0 := 0) rfl rfl) hP hK hD) rfl rfl hl.1 rfl (lv_room (Nat.le_of_ble_eq_true rfl)) dX12_readWhole_33 (by decide +kernel)) hS (fun q _ h => hFc q h) hFc (fun u t9_ H locs ht hvm hw9 hB9 hz1 hk1 hS => ?_)
          revert u hw9 hB9
          refine fz_p2 ?_
          intro s233_1 p233_1 hw9 hB9
          try dsimp only at hw9 hB9
          have hP : va_P (dC, dI) vwCl (WR a k h0 (fT (fT (fT (fT (fT (fT vi 17 (nI a3)) 19 (nI f3)) 18 w3) 20 g3) 21 s233_1) 22 p233_1) vj vF vG) H := fz_P ht hB9.1
          have hD := fz_sd hP (hB9.2.weaken (fun _ q _ h => hFc q.1 h)) rfl
          revert hw9
          refine fz_a2 ?_
          intro f33_1_0 f33_1_1
          have f33_1_0 : (0 < (vi 21).toInt ∧ s233_1 = (vi 21) ∧ p233_1 = (vi 22)) ∨ (¬ 0 < (vi 21).toInt ∧ (s233_1 = 1 ∨ s233_1 = 2) ∧ p233_1 = (nI f3)) := f33_1_0
          refine lv_iconst (v := 0) hx hb dX12_readWhole_36 (by decide) ?_
          refine W.widen (k := 0) (n := 0) (by decide +kernel) (by decide +kernel) ?_
          exact W.iret (v := 0) hx hb hr (fun t9_ ht hW => ⟨⟨0, (a3, f3, g3, w3, s233_1, p233_1), rfl, by (try dsimp only); exact ⟨hLx3, by omega, by omega, by decide, Or.inl (by omega)⟩, by rw [ht]; exact hP, hD⟩, hS.F ht⟩) hS.2.2 dX12_readWhole_37
  · have t_4 : ¬ ((vi 21)).toInt ≤ 0 := toI_nle c_4 rfl (by decide)
    refine lv_iconst (v := 0) hx hb dX12_readWhole_7 (by decide) ?_
    refine W.widen (k := 0) (n := 0) (by decide +kernel) (by decide +kernel) ?_
    have e9 : fT (fT (fT (fT (fT (fT vi 17 (nI an)) 19 (nI fn)) 18 (vi 18)) 20 (vi 20)) 21 (vi 21)) 22 (vi 22) = vi := Eq.trans (mv_5 rfl) (Eq.trans (congrArg (fT _ 17) (show nI an = vi 17 from (by first | with_reducible rfl | with_reducible assumption | (symm; with_reducible assumption) | rfl | assumption | (symm; assumption) | (subst_vars; rfl)))) (Eq.trans (id_5 rfl) (Eq.trans (mv_4 rfl) (Eq.trans (congrArg (fT _ 19) (show nI fn = vi 19 from (by first | with_reducible rfl | with_reducible assumption | (symm; with_reducible assumption) | rfl | assumption | (symm; assumption) | (subst_vars; rfl)))) (Eq.trans (id_4 rfl) (Eq.trans (mv_3 rfl) (Eq.trans (id_3 rfl) (Eq.trans (mv_2 rfl) (Eq.trans (id_2 rfl) (Eq.trans (mv_1 rfl) (Eq.trans (id_1 rfl) (id_0 rfl))))))))))))
    have hP := wr_Pi e9 hP
    have hD := wr_Di e9 hD
    clear e9
    exact W.iret (v := 0) hx hb hr (fun t9_ ht hW => ⟨⟨0, (an, fn, (vi 20), (vi 18), (vi 21), (vi 22)), rfl, by (try dsimp only); exact ⟨hLx, Nat.le_refl _, hst0, by decide, Or.inl (by omega)⟩, by rw [ht]; exact hP, hD⟩, hS.F ht⟩) hS.2.2 dX12_readWhole_8
theorem dX12_readOwn_0 : decode cX12_readOwn 0 = .ok (.aload_n 0, 1) := dk_42 (by decide +kernel)
theorem dX12_readOwn_1 : decode cX12_readOwn 1 = .ok (.getfield 494, 3) := dk_180 (by decide +kernel)
theorem dX12_readOwn_4 : decode cX12_readOwn 4 = .ok (.iconst 1, 1) := dk_4 (by decide +kernel)
theorem dX12_readOwn_5 : decode cX12_readOwn 5 = .ok (.if_icmp .eq 8, 3) := dk_159 (by decide +kernel)
theorem dX12_readOwn_8 : decode cX12_readOwn 8 = .ok (.aload_n 0, 1) := dk_42 (by decide +kernel)
theorem dX12_readOwn_9 : decode cX12_readOwn 9 = .ok (.invokevirtual 527, 3) := dk_182 (by decide +kernel)
theorem dX12_readOwn_12 : decode cX12_readOwn 12 = .ok (.return_, 1) := dk_177 (by decide +kernel)
theorem dX12_readOwn_13 : decode cX12_readOwn 13 = .ok (.aload_n 0, 1) := dk_42 (by decide +kernel)
theorem dX12_readOwn_14 : decode cX12_readOwn 14 = .ok (.invokevirtual 555, 3) := dk_182 (by decide +kernel)
theorem dX12_readOwn_17 : decode cX12_readOwn 17 = .ok (.iconst (-1), 1) := dk_2 (by decide +kernel)
theorem dX12_readOwn_18 : decode cX12_readOwn 18 = .ok (.if_icmp .eq 16, 3) := dk_159 (by decide +kernel)
theorem dX12_readOwn_21 : decode cX12_readOwn 21 = .ok (.aload_n 0, 1) := dk_42 (by decide +kernel)
theorem dX12_readOwn_22 : decode cX12_readOwn 22 = .ok (.bipush 10, 2) := dk_16 (by decide +kernel)
theorem dX12_readOwn_24 : decode cX12_readOwn 24 = .ok (.aload_n 0, 1) := dk_42 (by decide +kernel)
theorem dX12_readOwn_25 : decode cX12_readOwn 25 = .ok (.getfield 488, 3) := dk_180 (by decide +kernel)
theorem dX12_readOwn_28 : decode cX12_readOwn 28 = .ok (.invokevirtual 518, 3) := dk_182 (by decide +kernel)
theorem dX12_readOwn_31 : decode cX12_readOwn 31 = .ok (.goto 21, 3) := dk_167 (by decide +kernel)
theorem dX12_readOwn_34 : decode cX12_readOwn 34 = .ok (.aload_n 0, 1) := dk_42 (by decide +kernel)
theorem dX12_readOwn_35 : decode cX12_readOwn 35 = .ok (.getfield 533, 3) := dk_180 (by decide +kernel)
theorem dX12_readOwn_38 : decode cX12_readOwn 38 = .ok (.bipush 40, 2) := dk_16 (by decide +kernel)
theorem dX12_readOwn_40 : decode cX12_readOwn 40 = .ok (.if_icmp .ne 12, 3) := dk_160 (by decide +kernel)
theorem dX12_readOwn_43 : decode cX12_readOwn 43 = .ok (.aload_n 0, 1) := dk_42 (by decide +kernel)
theorem dX12_readOwn_44 : decode cX12_readOwn 44 = .ok (.iconst 4, 1) := dk_7 (by decide +kernel)
theorem dX12_readOwn_45 : decode cX12_readOwn 45 = .ok (.aload_n 0, 1) := dk_42 (by decide +kernel)
theorem dX12_readOwn_46 : decode cX12_readOwn 46 = .ok (.getfield 488, 3) := dk_180 (by decide +kernel)
theorem dX12_readOwn_49 : decode cX12_readOwn 49 = .ok (.invokevirtual 518, 3) := dk_182 (by decide +kernel)
theorem dX12_readOwn_52 : decode cX12_readOwn 52 = .ok (.aload_n 0, 1) := dk_42 (by decide +kernel)
theorem dX12_readOwn_53 : decode cX12_readOwn 53 = .ok (.getfield 515, 3) := dk_180 (by decide +kernel)
theorem dX12_readOwn_56 : decode cX12_readOwn 56 = .ok (.ifCond .le 4, 3) := dk_158 (by decide +kernel)
theorem dX12_readOwn_59 : decode cX12_readOwn 59 = .ok (.return_, 1) := dk_177 (by decide +kernel)
theorem dX12_readOwn_60 : decode cX12_readOwn 60 = .ok (.aload_n 0, 1) := dk_42 (by decide +kernel)
theorem dX12_readOwn_61 : decode cX12_readOwn 61 = .ok (.aload_n 0, 1) := dk_42 (by decide +kernel)
theorem dX12_readOwn_62 : decode cX12_readOwn 62 = .ok (.getfield 488, 3) := dk_180 (by decide +kernel)
theorem dX12_readOwn_65 : decode cX12_readOwn 65 = .ok (.putfield 68, 3) := dk_181 (by decide +kernel)
theorem dX12_readOwn_68 : decode cX12_readOwn 68 = .ok (.aload_n 0, 1) := dk_42 (by decide +kernel)
theorem dX12_readOwn_69 : decode cX12_readOwn 69 = .ok (.aload_n 0, 1) := dk_42 (by decide +kernel)
theorem dX12_readOwn_70 : decode cX12_readOwn 70 = .ok (.getfield 485, 3) := dk_180 (by decide +kernel)
theorem dX12_readOwn_73 : decode cX12_readOwn 73 = .ok (.aload_n 0, 1) := dk_42 (by decide +kernel)
theorem dX12_readOwn_74 : decode cX12_readOwn 74 = .ok (.getfield 488, 3) := dk_180 (by decide +kernel)
theorem dX12_readOwn_77 : decode cX12_readOwn 77 = .ok (.isub, 1) := dk_100 (by decide +kernel)
theorem dX12_readOwn_78 : decode cX12_readOwn 78 = .ok (.putfield 552, 3) := dk_181 (by decide +kernel)
theorem dX12_readOwn_81 : decode cX12_readOwn 81 = .ok (.aload_n 0, 1) := dk_42 (by decide +kernel)
theorem dX12_readOwn_82 : decode cX12_readOwn 82 = .ok (.invokevirtual 524, 3) := dk_182 (by decide +kernel)
theorem dX12_readOwn_85 : decode cX12_readOwn 85 = .ok (.return_, 1) := dk_177 (by decide +kernel)
def wsRX12_readOwn : List Cond := .code yX12_readOwn cX12_readOwn 1 none :: ([.fieldLink RX12 494 "OptimaWorksModel" "word" "I", .fieldLink RX12 533 "OptimaWorksModel" "names" "I", .fieldLink RX12 515 "OptimaWorksModel" "stop" "I", .fieldLink RX12 488 "OptimaWorksModel" "from" "I", .fieldLink RX12 68 "OptimaWorksModel" "ownFrom" "I", .fieldLink RX12 485 "OptimaWorksModel" "at0" "I", .fieldLink RX12 552 "OptimaWorksModel" "ownLong" "I"] ++ wsX120 ++ (wsV RX12 555 RX12 yX12_declared wsRX12_declared) ++ (wsV RX12 524 RX12 yX12_next wsRX12_next) ++ (wsV RX12 518 RX12 yX12_faultAt wsRX12_faultAt) ++ (wsV RX12 527 RX12 yX12_wrong wsRX12_wrong))
theorem iwsRX12_readOwn_in12 : ∀ w ∈ wsX120, w ∈ wsRX12_readOwn := fun _ h => List.mem_cons_of_mem _ (List.mem_append_left _ (List.mem_append_left _ (List.mem_append_left _ (List.mem_append_left _ (List.mem_append_right _ h)))))
theorem gwsRX12_readOwn_0 : GoodIn wsRX12_readOwn (wsV RX12 555 RX12 yX12_declared wsRX12_declared) := goodIn_sub (fun _ h => List.mem_cons_of_mem _ (List.mem_append_left _ (List.mem_append_left _ (List.mem_append_left _ (List.mem_append_right _ h))))) (gdV (by decide +kernel) gdwsRX12_declared)
theorem gwsRX12_readOwn_1 : GoodIn wsRX12_readOwn (wsV RX12 524 RX12 yX12_next wsRX12_next) := goodIn_sub (fun _ h => List.mem_cons_of_mem _ (List.mem_append_left _ (List.mem_append_left _ (List.mem_append_right _ h)))) (gdV (by decide +kernel) gdwsRX12_next)
theorem gwsRX12_readOwn_2 : GoodIn wsRX12_readOwn (wsV RX12 518 RX12 yX12_faultAt wsRX12_faultAt) := goodIn_sub (fun _ h => List.mem_cons_of_mem _ (List.mem_append_left _ (List.mem_append_right _ h))) (gdV (by decide +kernel) gdwsRX12_faultAt)
theorem gwsRX12_readOwn_3 : GoodIn wsRX12_readOwn (wsV RX12 527 RX12 yX12_wrong wsRX12_wrong) := goodIn_sub (fun _ h => List.mem_cons_of_mem _ (List.mem_append_right _ h)) (gdV (by decide +kernel) gdwsRX12_wrong)
theorem gdwsRX12_readOwn : wsRX12_readOwn.all goodWord = true := gdC rfl (gdA (gdA (gdA (gdA (gdA (by decide +kernel : ([.fieldLink RX12 494 "OptimaWorksModel" "word" "I", .fieldLink RX12 533 "OptimaWorksModel" "names" "I", .fieldLink RX12 515 "OptimaWorksModel" "stop" "I", .fieldLink RX12 488 "OptimaWorksModel" "from" "I", .fieldLink RX12 68 "OptimaWorksModel" "ownFrom" "I", .fieldLink RX12 485 "OptimaWorksModel" "at0" "I", .fieldLink RX12 552 "OptimaWorksModel" "ownLong" "I"] : List Cond).all goodWord = true) gdwsX120) (gdV (by decide +kernel) gdwsRX12_declared)) (gdV (by decide +kernel) gdwsRX12_next)) (gdV (by decide +kernel) gdwsRX12_faultAt)) (gdV (by decide +kernel) gdwsRX12_wrong))
theorem hm_r_X12_readOwn_0 : (.fieldLink RX12 533 "OptimaWorksModel" "names" "I" : Cond) ∈ wsRX12_readOwn := by decide +kernel
theorem hm_r_X12_readOwn_1 : (.fieldLink RX12 515 "OptimaWorksModel" "stop" "I" : Cond) ∈ wsRX12_readOwn := by decide +kernel
theorem hm_r_X12_readOwn_2 : (.fieldLink RX12 488 "OptimaWorksModel" "from" "I" : Cond) ∈ wsRX12_readOwn := by decide +kernel
theorem hm_r_X12_readOwn_3 : (.fieldLink RX12 68 "OptimaWorksModel" "ownFrom" "I" : Cond) ∈ wsRX12_readOwn := by decide +kernel
theorem hm_r_X12_readOwn_4 : (.fieldLink RX12 485 "OptimaWorksModel" "at0" "I" : Cond) ∈ wsRX12_readOwn := by decide +kernel
theorem hm_r_X12_readOwn_5 : (.fieldLink RX12 552 "OptimaWorksModel" "ownLong" "I" : Cond) ∈ wsRX12_readOwn := by decide +kernel
set_option maxHeartbeats 4000000 in
set_option maxRecDepth 100000 in
/-- readOwn() -/
theorem r_X12_readOwn (l : Launch) (dC : Nat → ClassId) (dI : Nat → Nat → Nat) (a : Nat → Nat) (k : Nat → ClassId) (h0 : Nat) (vi : Nat → Int32) (vj : Nat → Int64) (vF : Nat → Nat → Int32) (vG : Nat → Nat → Int64) (tp : Nat) (an : Nat) (fn : Nat) (nm : Nat) (se : Nat) (pa : Nat) (va : Nat) (hTp : vi 16 = nI tp) (htp : tp ≤ 4000) (ha0 : vi 17 = nI an) (hfr : vi 19 = nI fn) (hLx : LxO tp fn an (vi 18) (vi 20)) (hst0 : 0 ≤ (vi 21).toInt) (hnm : vi 25 = nI nm) (hnm40 : nm ≤ 40) (hno : NmO (vF 11) (vF 12) nm) (hNk : NkO (vF 10) (vF 13) nm se pa va) (sz : Nat) : Met l yX12_readOwn wsRX12_readOwn ({ frames := 8, cells := 0, slots := 0, locals := 173 }) (va_Pc [.ref h0] (fun U => U.heap.size = sz ∧ va_P (dC, dI) vwCl (WR a k h0 vi vj vF vG) U.heap ∧ va_K (dC, dI) vwCl (tX12 k) U ∧ va_D (fun _ => True) (WR a k h0 vi vj vF vG) ∧ StrA (va_A (WR a k h0 vi vj vF vG) sz) U U.heap)) (va_Qv (fun (u : (Nat) × (Nat) × (Int32) × (Int32) × (Int32) × (Int32) × (Int32) × (Int32)) => (LxO tp (u.2.1) (u.1) (u.2.2.2.1) (u.2.2.1)) ∧ (fn ≤ (u.2.1)) ∧ (0 ≤ ((u.2.2.2.2.1)).toInt) ∧ ((0 < ((u.2.2.2.2.1)).toInt ∧ (u.2.2.2.2.2.2.1) = vi 33 ∧ (u.2.2.2.2.2.2.2) = vi 34) ∨ ((u.2.2.2.2.1) = 0 ∧ fn < (u.2.1) ∧ nm < 40 ∧ ∃ x y : Nat, (u.2.2.2.2.2.2.1) = nI x ∧ (u.2.2.2.2.2.2.2) = nI y ∧ x + y ≤ 4000))) (fun (u : (Nat) × (Nat) × (Int32) × (Int32) × (Int32) × (Int32) × (Int32) × (Int32)) t => va_P (dC, dI) vwCl (WR a k h0 (fT (fT (fT (fT (fT (fT (fT (fT vi 33 (u.2.2.2.2.2.2.1)) 34 (u.2.2.2.2.2.2.2)) 17 (nI (u.1))) 19 (nI (u.2.1))) 20 (u.2.2.1)) 18 (u.2.2.2.1)) 21 (u.2.2.2.2.1)) 22 (u.2.2.2.2.2.1)) vj vF vG) t.heap ∧ va_D (va_A (WR a k h0 vi vj vF vG) sz) (WR a k h0 (fT (fT (fT (fT (fT (fT (fT (fT vi 33 (u.2.2.2.2.2.2.1)) 34 (u.2.2.2.2.2.2.2)) 17 (nI (u.1))) 19 (nI (u.2.1))) 20 (u.2.2.1)) 18 (u.2.2.2.1)) 21 (u.2.2.2.2.1)) 22 (u.2.2.2.2.2.1)) vj vF vG)) (va_A (WR a k h0 vi vj vF vG) sz)) 0 0 (va_A (WR a k h0 vi vj vF vG) sz) := by
  refine Met.ofW (cc := cX12_readOwn) (maxL := 1) (ret := none) (by decide) rfl ?_
  intro p e s m args below meth c s₁ B hml hv
  obtain ⟨rfl, hsz, hP, hK, hD0, hE⟩ := hv
  have hx := B.exec
  have hb := B.bytes
  have hr := B.returns
  have hts := atoms_spec (ws := wsRX12_readOwn) B.pre
  have hown : s.vm.findClass RX12 = some m.cls := findClass_of_methodNamed B.named
  have hlocks := B.notSynchronized
  subst hsz
  have hD := hD0.self (sz := s.heap.size)
  generalize hAe : va_A (WR a k h0 vi vj vF vG) s.heap.size = A at hD hE ⊢
  have hA : ∀ q : Nat, s.heap.size ≤ q → A q := fun q h => by rw [← hAe]; exact Or.inr h
  have hS : va_S A s.heap s.heap [] := va_S.rf
  have hl := lv_entry ([.ref h0]) (n := 1) (Nat.le_of_ble_eq_true rfl)
  rw [lg_entry_eq]
  generalize (lg_sl ([.ref h0]) ++ List.replicate (1 - (lg_sl ([.ref h0])).length) Slot.unset).toArray = ls at hl ⊢
  have hl : lv_has ls 1 [(0, .ref h0)] := hl
  have hfa := hLx.1
  have han := hLx.2.1
  have han4 : an ≤ 4000 := by omega
  refine lv_aload_n hx hb dX12_readOwn_0 rfl (lv_at hl 0 rfl) ?_
  refine va_get (D := (dC, dI)) (ci := 12) (v := .int (vi 18)) (C := RX12) (T := TX12) (N := 163) (fs := fM (vS a vi vj)) hx hb hts iwsRX12_readOwn_in12 hown hK hP 0 rfl rfl 18 (by decide) (hts (.fieldLink RX12 494 "OptimaWorksModel" "word" "I") (by decide +kernel)) (fun _ h9 => h9) rfl dX12_readOwn_1 ?_
  refine lv_iconst (v := 1) hx hb dX12_readOwn_4 (by decide) ?_
  refine lv_icmp_eq (tgt := 13) hx hb dX12_readOwn_5 (by decide) (fun c_5 => ?_) (fun c_5 => ?_)
  · have t_5 : ((vi 18)).toInt = 1 := toI_eq c_5 rfl (by decide)
    refine lv_aload_n hx hb dX12_readOwn_13 rfl (lv_at hl 0 rfl) ?_
    have hFc := allFree hD hS hA
    refine va_calli (va_runV (As := []) (rest := []) ⟨hx, hb, hml, hown, hts⟩ (r_X12_declared l dC dI a k h0 vi vj vF vG an fn nm ha0 hfr (by first | with_reducible assumption | decide | omega | rfl | assumption) (by first | with_reducible assumption | decide | omega | rfl | assumption) hnm (by first | with_reducible assumption | decide | omega | rfl | assumption) (by first | with_reducible assumption | decide | omega | rfl | assumption) s.heap.size) (cwV 0 hts gwsRX12_readOwn_0 rfl rfl rfl hd_yX12_declared_RX12 (by decide +kernel)) (fz_pre (va_recv hK hP (ci := 12) (q0 := 0) rfl rfl) hP hK hD) rfl rfl hl.1 rfl (lv_room (Nat.le_of_ble_eq_true rfl)) dX12_readOwn_14 (by decide +kernel)) hS (fun q _ h => hFc q h) hFc (fun r14 kx14 t9_ H locs ht hvm hw9 hB9 hz1 hk1 hS => ?_)
    have hP : va_P (dC, dI) vwCl (WR a k h0 vi vj vF vG) H := fz_P ht hB9.1
    have hD := fz_sd hP (hB9.2.weaken (fun _ q _ h => hFc q.1 h)) rfl
    rcases hw9 with rfl | ⟨rfl, f14_0⟩
    · refine lv_iconst (v := (-1)) hx hb dX12_readOwn_17 (by decide) ?_
      refine lv_icmp_eq (tgt := 34) hx hb dX12_readOwn_18 (by decide) (fun _ => ?_) (fun c9 => absurd (by decide) c9)
      refine lv_aload_n hx hb dX12_readOwn_34 rfl (lv_at hl 0 rfl) ?_
      refine va_get (D := (dC, dI)) (ci := 12) (v := .int (vi 25)) (C := RX12) (T := TX12) (N := 163) (fs := fM (vS a vi vj)) hx hb hts iwsRX12_readOwn_in12 hown hK hP 0 rfl rfl 25 (by decide) (hts _ hm_r_X12_readOwn_0) (fun _ h9 => h9) rfl dX12_readOwn_35 ?_
      refine lv_topi (fun y1 hy1 => ?_)
      obtain rfl : (nI nm) = y1 := (hy1.trans (hnm)).symm
      refine lv_bipush (v := 40) hx hb dX12_readOwn_38 (by decide) ?_
      refine lv_icmp_ne (tgt := 52) hx hb dX12_readOwn_40 (by decide) (fun c_40 => ?_) (fun c_40 => ?_)
      · have t_40 : ((nm : Nat) : Int) ≠ 40 := toI_ne c_40 (nI_toInt (by omega)) (by decide)
        refine lv_aload_n hx hb dX12_readOwn_52 rfl (lv_at hl 0 rfl) ?_
        refine va_get (D := (dC, dI)) (ci := 12) (v := .int (vi 21)) (C := RX12) (T := TX12) (N := 163) (fs := fM (vS a vi vj)) hx hb hts iwsRX12_readOwn_in12 hown hK hP 0 rfl rfl 21 (by decide) (hts _ hm_r_X12_readOwn_1) (fun _ h9 => h9) rfl dX12_readOwn_53 ?_
        refine lv_if_le (tgt := 60) hx hb dX12_readOwn_56 (by decide) (fun c_56 => ?_) (fun c_56 => ?_)
        · have t_56 : ((vi 21)).toInt ≤ 0 := toI_le c_56 rfl (by decide)
          have hfl := hLx.2.2.1.resolve_left (fun h => by rw [h] at c_5; exact absurd c_5 (by decide))
          refine lv_aload_n hx hb dX12_readOwn_60 rfl (lv_at hl 0 rfl) ?_
          refine lv_aload_n hx hb dX12_readOwn_61 rfl (lv_at hl 0 rfl) ?_
          refine va_get (D := (dC, dI)) (ci := 12) (v := .int (vi 19)) (C := RX12) (T := TX12) (N := 163) (fs := fM (vS a vi vj)) hx hb hts iwsRX12_readOwn_in12 hown hK hP 0 rfl rfl 19 (by decide) (hts _ hm_r_X12_readOwn_2) (fun _ h9 => h9) rfl dX12_readOwn_62 ?_
          refine lv_topi (fun y2 hy2 => ?_)
          obtain rfl : (nI fn) = y2 := (hy2.trans (hfr)).symm
          refine va_put (D := (dC, dI)) (ci := 12) (v := .int (nI fn)) (ty := .int) (C := RX12) (T := TX12) (N := 163) (fs := fM (vS a vi vj)) hx hb hts iwsRX12_readOwn_in12 tyX12 tyX12_ok nmX12 hown hK hP hD hS 0 rfl rfl 33 (by decide) (hts _ hm_r_X12_readOwn_3) (fun _ h9 => h9) rfl (by decide +kernel) rfl rfl (Nat.le_of_ble_eq_true rfl) dX12_readOwn_65 (fun H locs hP hD hS => ?_)
          have hP : va_P (dC, dI) vwCl (WR a k h0 (fT vi 33 (nI fn)) vj vF vG) H := fz_w (WR_i 33 _ rfl) hP
          have hD : va_D A (WR a k h0 (fT vi 33 (nI fn)) vj vF vG) := fz_wD (WR_i 33 _ rfl) hD
          refine lv_aload_n hx hb dX12_readOwn_68 rfl (lv_at hl 0 rfl) ?_
          refine lv_aload_n hx hb dX12_readOwn_69 rfl (lv_at hl 0 rfl) ?_
          refine va_get (D := (dC, dI)) (ci := 12) (v := .int (vi 17)) (C := RX12) (T := TX12) (N := 163) (fs := fM (vS a (fT vi 33 (nI fn)) vj)) hx hb hts iwsRX12_readOwn_in12 hown hK hP 0 rfl rfl 17 (by decide) (hts _ hm_r_X12_readOwn_4) (fun _ h9 => h9) rfl dX12_readOwn_70 ?_
          refine lv_topi (fun y3 hy3 => ?_)
          obtain rfl : (nI an) = y3 := (hy3.trans (ha0)).symm
          refine lv_aload_n hx hb dX12_readOwn_73 rfl (lv_at hl 0 rfl) ?_
          refine va_get (D := (dC, dI)) (ci := 12) (v := .int (vi 19)) (C := RX12) (T := TX12) (N := 163) (fs := fM (vS a (fT vi 33 (nI fn)) vj)) hx hb hts iwsRX12_readOwn_in12 hown hK hP 0 rfl rfl 19 (by decide) (hts _ hm_r_X12_readOwn_2) (fun _ h9 => h9) rfl dX12_readOwn_74 ?_
          refine lv_topi (fun y4 hy4 => ?_)
          obtain rfl : (nI fn) = y4 := (hy4.trans (hfr)).symm
          refine lv_isub hx hb dX12_readOwn_77 ?_
          refine lv_topi (fun y5 hy5 => ?_)
          obtain rfl : (nI (an - fn)) = y5 := (hy5.trans (pk_sub (a := an) (b := fn) (by omega))).symm
          refine va_put (D := (dC, dI)) (ci := 12) (v := .int (nI (an - fn))) (ty := .int) (C := RX12) (T := TX12) (N := 163) (fs := fM (vS a (fT vi 33 (nI fn)) vj)) hx hb hts iwsRX12_readOwn_in12 tyX12 tyX12_ok nmX12 hown hK hP hD hS 0 rfl rfl 34 (by decide) (hts _ hm_r_X12_readOwn_5) (fun _ h9 => h9) rfl (by decide +kernel) rfl rfl (Nat.le_of_ble_eq_true rfl) dX12_readOwn_78 (fun H locs hP hD hS => ?_)
          have hP : va_P (dC, dI) vwCl (WR a k h0 (fT (fT vi 33 (nI fn)) 34 (nI (an - fn))) vj vF vG) H := fz_w (WR_i 34 _ rfl) hP
          have hD : va_D A (WR a k h0 (fT (fT vi 33 (nI fn)) 34 (nI (an - fn))) vj vF vG) := fz_wD (WR_i 34 _ rfl) hD
          refine lv_aload_n hx hb dX12_readOwn_81 rfl (lv_at hl 0 rfl) ?_
          have hFc := allFree hD hS hA
          refine va_callv (va_runV (As := []) (rest := []) ⟨hx, hb, hml, hown, hts⟩ (r_X12_next l dC dI a k h0 (fT (fT vi 33 (nI fn)) 34 (nI (an - fn))) vj vF vG tp an hTp (by first | with_reducible assumption | decide | omega | rfl | assumption) ha0 (by first | with_reducible assumption | decide | omega | rfl | assumption) H.size) (cwV 0 hts gwsRX12_readOwn_1 rfl rfl rfl hd_yX12_next_RX12 (by decide +kernel)) (fz_preE (va_recv hK hP (ci := 12) (q0 := 0) rfl rfl) hP hK hD (fun a U g mk qE => qE.same rfl) (fun U hU9 hW => by rw [hU9]; exact (((hE : StrA A s s.heap).kept hS.2.1).narrow (fun q h => hFc q h)).warm hW)) rfl rfl hl.1 rfl (lv_room (Nat.le_of_ble_eq_true rfl)) dX12_readOwn_82 (by decide +kernel)) hS (fun q _ h => hFc q h) hFc (fun u t9_ H locs ht hvm hw9 hB9 hz1 hk1 hS => ?_)
          revert u hw9 hB9
          refine fz_p4 ?_
          intro a282 f282 sg82 wd82 hw9 hB9
          try dsimp only at hw9 hB9
          have hP : va_P (dC, dI) vwCl (WR a k h0 (fT (fT (fT (fT (fT (fT vi 33 (nI fn)) 34 (nI (an - fn))) 17 (nI a282)) 19 (nI f282)) 20 sg82) 18 wd82) vj vF vG) H := fz_P ht hB9.1
          have hD := fz_sd hP (hB9.2.weaken (fun _ q _ h => hFc q.1 h)) rfl
          revert hw9
          refine fz_a2 ?_
          intro f82_0 f82_1
          refine W.widen (k := 0) (n := 0) (by decide +kernel) (by decide +kernel) ?_
          have e9 : fT (fT (fT (fT (fT (fT (fT (fT vi 33 (nI fn)) 34 (nI (an - fn))) 17 (nI a282)) 19 (nI f282)) 20 sg82) 18 wd82) 21 (vi 21)) 22 (vi 22) = fT (fT (fT (fT (fT (fT vi 33 (nI fn)) 34 (nI (an - fn))) 17 (nI a282)) 19 (nI f282)) 20 sg82) 18 wd82 := Eq.trans (mv_1 rfl) (Eq.trans (id_7 rfl) (id_6 rfl))
          have hP := wr_Pi e9 hP
          have hD := wr_Di e9 hD
          clear e9
          exact W.vret hx hb hr (fun t9_ ht hW => ⟨⟨(a282, f282, sg82, wd82, (vi 21), (vi 22), (nI fn), (nI (an - fn))), rfl, by (try dsimp only); exact ⟨f82_0, by omega, hst0, Or.inr ⟨i32z (by omega), by omega, by omega, fn, an - fn, rfl, rfl, by omega⟩⟩, by rw [ht]; exact hP, hD⟩, hS.F ht⟩) hS.2.2 dX12_readOwn_85
        · have t_56 : ¬ ((vi 21)).toInt ≤ 0 := toI_nle c_56 rfl (by decide)
          refine W.widen (k := 0) (n := 0) (by decide +kernel) (by decide +kernel) ?_
          have e9 : fT (fT (fT (fT (fT (fT (fT (fT vi 33 (vi 33)) 34 (vi 34)) 17 (nI an)) 19 (nI fn)) 20 (vi 20)) 18 (vi 18)) 21 (vi 21)) 22 (vi 22) = vi := Eq.trans (mv_7 rfl) (Eq.trans (id_7 rfl) (Eq.trans (mv_6 rfl) (Eq.trans (id_6 rfl) (Eq.trans (mv_5 rfl) (Eq.trans (congrArg (fT _ 17) (show nI an = vi 17 from (by first | with_reducible rfl | with_reducible assumption | (symm; with_reducible assumption) | rfl | assumption | (symm; assumption) | (subst_vars; rfl)))) (Eq.trans (id_5 rfl) (Eq.trans (mv_4 rfl) (Eq.trans (congrArg (fT _ 19) (show nI fn = vi 19 from (by first | with_reducible rfl | with_reducible assumption | (symm; with_reducible assumption) | rfl | assumption | (symm; assumption) | (subst_vars; rfl)))) (Eq.trans (id_4 rfl) (Eq.trans (mv_3 rfl) (Eq.trans (id_3 rfl) (Eq.trans (mv_2 rfl) (Eq.trans (id_2 rfl) (Eq.trans (mv_1 rfl) (Eq.trans (id_1 rfl) (id_0 rfl))))))))))))))))
          have hP := wr_Pi e9 hP
          have hD := wr_Di e9 hD
          clear e9
          exact W.vret hx hb hr (fun t9_ ht hW => ⟨⟨(an, fn, (vi 20), (vi 18), (vi 21), (vi 22), (vi 33), (vi 34)), rfl, by (try dsimp only); exact ⟨hLx, Nat.le_refl _, by omega, Or.inl ⟨by omega, rfl, rfl⟩⟩, by rw [ht]; exact hP, hD⟩, hS.F ht⟩) hS.2.2 dX12_readOwn_59
      · have t_40 : ((nm : Nat) : Int) = 40 := toI_nne c_40 (nI_toInt (by omega)) (by decide)
        refine lv_aload_n hx hb dX12_readOwn_43 rfl (lv_at hl 0 rfl) ?_
        refine lv_iconst (v := 4) hx hb dX12_readOwn_44 (by decide) ?_
        refine lv_aload_n hx hb dX12_readOwn_45 rfl (lv_at hl 0 rfl) ?_
        refine va_get (D := (dC, dI)) (ci := 12) (v := .int (vi 19)) (C := RX12) (T := TX12) (N := 163) (fs := fM (vS a vi vj)) hx hb hts iwsRX12_readOwn_in12 hown hK hP 0 rfl rfl 19 (by decide) (hts _ hm_r_X12_readOwn_2) (fun _ h9 => h9) rfl dX12_readOwn_46 ?_
        refine lv_topi (fun y6 hy6 => ?_)
        obtain rfl : (nI fn) = y6 := (hy6.trans (hfr)).symm
        have hFc := allFree hD hS hA
        refine va_callv (va_runV (As := [.int 4, .int (nI fn)]) (rest := []) ⟨hx, hb, hml, hown, hts⟩ (r_X12_faultAt l dC dI a k h0 vi vj vF vG 4 (nI fn) (by first | with_reducible assumption | decide | omega | rfl | assumption) H.size) (cwV 2 hts gwsRX12_readOwn_2 rfl rfl rfl hd_yX12_faultAt_RX12 (by decide +kernel)) (fz_pre (va_recv hK hP (ci := 12) (q0 := 0) rfl rfl) hP hK hD) rfl rfl hl.1 rfl (lv_room (Nat.le_of_ble_eq_true rfl)) dX12_readOwn_49 (by decide +kernel)) hS (fun q _ h => hFc q h) hFc (fun u t9_ H locs ht hvm hw9 hB9 hz1 hk1 hS => ?_)
        revert u hw9 hB9
        refine fz_p2 ?_
        intro s249 p249 hw9 hB9
        try dsimp only at hw9 hB9
        have hP : va_P (dC, dI) vwCl (WR a k h0 (fT (fT vi 21 s249) 22 p249) vj vF vG) H := fz_P ht hB9.1
        have hD := fz_sd hP (hB9.2.weaken (fun _ q _ h => hFc q.1 h)) rfl
        revert hw9
        refine fz_a2 ?_
        intro f49_0 f49_1
        have f49_0 : (0 < (vi 21).toInt ∧ s249 = (vi 21) ∧ p249 = (vi 22)) ∨ (¬ 0 < (vi 21).toInt ∧ s249 = 4 ∧ p249 = (nI fn)) := f49_0
        refine lv_aload_n hx hb dX12_readOwn_52 rfl (lv_at hl 0 rfl) ?_
        refine va_get (D := (dC, dI)) (ci := 12) (v := .int s249) (C := RX12) (T := TX12) (N := 163) (fs := fM (vS a (fT (fT vi 21 s249) 22 p249) vj)) hx hb hts iwsRX12_readOwn_in12 hown hK hP 0 rfl rfl 21 (by decide) (hts _ hm_r_X12_readOwn_1) (fun _ h9 => h9) rfl dX12_readOwn_53 ?_
        refine lv_if_le (tgt := 60) hx hb dX12_readOwn_56 (by decide) (fun c9 => False.elim (by have t9 : (s249).toInt ≤ 0 := toI_le c9 rfl (by decide); omega)) (fun c_56 => ?_)
        have t_56 : ¬ (s249).toInt ≤ 0 := toI_nle c_56 rfl (by decide)
        refine W.widen (k := 0) (n := 0) (by decide +kernel) (by decide +kernel) ?_
        have e9 : fT (fT (fT (fT (fT (fT (fT (fT vi 33 (vi 33)) 34 (vi 34)) 17 (nI an)) 19 (nI fn)) 20 (vi 20)) 18 (vi 18)) 21 s249) 22 p249 = fT (fT vi 21 s249) 22 p249 := Eq.trans (mv_7 rfl) (Eq.trans (id_7 rfl) (Eq.trans (mv_6 rfl) (Eq.trans (id_6 rfl) (Eq.trans (mv_5 rfl) (Eq.trans (congrArg (fT _ 17) (show nI an = vi 17 from (by first | with_reducible rfl | with_reducible assumption | (symm; with_reducible assumption) | rfl | assumption | (symm; assumption) | (subst_vars; rfl)))) (Eq.trans (id_5 rfl) (Eq.trans (mv_4 rfl) (Eq.trans (congrArg (fT _ 19) (show nI fn = vi 19 from (by first | with_reducible rfl | with_reducible assumption | (symm; with_reducible assumption) | rfl | assumption | (symm; assumption) | (subst_vars; rfl)))) (Eq.trans (id_4 rfl) (Eq.trans (mv_3 rfl) (Eq.trans (id_3 rfl) (Eq.trans (mv_2 rfl) (id_2 rfl)))))))))))))
        have hP := wr_Pi e9 hP
        have hD := wr_Di e9 hD
        clear e9
        exact W.vret hx hb hr (fun t9_ ht hW => ⟨⟨(an, fn, (vi 20), (vi 18), s249, p249, (vi 33), (vi 34)), rfl, by (try dsimp only); exact ⟨hLx, Nat.le_refl _, by omega, Or.inl ⟨by omega, rfl, rfl⟩⟩, by rw [ht]; exact hP, hD⟩, hS.F ht⟩) hS.2.2 dX12_readOwn_59
    · refine lv_iconst (v := (-1)) hx hb dX12_readOwn_17 (by decide) ?_
      refine lv_icmp_eq (tgt := 34) hx hb dX12_readOwn_18 (by decide) (fun c_18 => ?_) (fun c_18 => ?_)
      · have t_18 : ((kx14 : Nat) : Int) = -1 := toI_eq c_18 (nI_toInt (by omega)) (by decide)
        refine lv_aload_n hx hb dX12_readOwn_34 rfl (lv_at hl 0 rfl) ?_
        refine va_get (D := (dC, dI)) (ci := 12) (v := .int (vi 25)) (C := RX12) (T := TX12) (N := 163) (fs := fM (vS a vi vj)) hx hb hts iwsRX12_readOwn_in12 hown hK hP 0 rfl rfl 25 (by decide) (hts _ hm_r_X12_readOwn_0) (fun _ h9 => h9) rfl dX12_readOwn_35 ?_
        refine lv_topi (fun y7 hy7 => ?_)
        obtain rfl : (nI nm) = y7 := (hy7.trans (hnm)).symm
        refine lv_bipush (v := 40) hx hb dX12_readOwn_38 (by decide) ?_
        refine lv_icmp_ne (tgt := 52) hx hb dX12_readOwn_40 (by decide) (fun c_40 => ?_) (fun c_40 => ?_)
        · have t_40 : ((nm : Nat) : Int) ≠ 40 := toI_ne c_40 (nI_toInt (by omega)) (by decide)
          refine lv_aload_n hx hb dX12_readOwn_52 rfl (lv_at hl 0 rfl) ?_
          refine va_get (D := (dC, dI)) (ci := 12) (v := .int (vi 21)) (C := RX12) (T := TX12) (N := 163) (fs := fM (vS a vi vj)) hx hb hts iwsRX12_readOwn_in12 hown hK hP 0 rfl rfl 21 (by decide) (hts _ hm_r_X12_readOwn_1) (fun _ h9 => h9) rfl dX12_readOwn_53 ?_
          refine lv_if_le (tgt := 60) hx hb dX12_readOwn_56 (by decide) (fun c_56 => ?_) (fun c_56 => ?_)
          · have t_56 : ((vi 21)).toInt ≤ 0 := toI_le c_56 rfl (by decide)
            have hfl := hLx.2.2.1.resolve_left (fun h => by rw [h] at c_5; exact absurd c_5 (by decide))
            refine lv_aload_n hx hb dX12_readOwn_60 rfl (lv_at hl 0 rfl) ?_
            refine lv_aload_n hx hb dX12_readOwn_61 rfl (lv_at hl 0 rfl) ?_
            refine va_get (D := (dC, dI)) (ci := 12) (v := .int (vi 19)) (C := RX12) (T := TX12) (N := 163) (fs := fM (vS a vi vj)) hx hb hts iwsRX12_readOwn_in12 hown hK hP 0 rfl rfl 19 (by decide) (hts _ hm_r_X12_readOwn_2) (fun _ h9 => h9) rfl dX12_readOwn_62 ?_
            refine lv_topi (fun y8 hy8 => ?_)
            obtain rfl : (nI fn) = y8 := (hy8.trans (hfr)).symm
            refine va_put (D := (dC, dI)) (ci := 12) (v := .int (nI fn)) (ty := .int) (C := RX12) (T := TX12) (N := 163) (fs := fM (vS a vi vj)) hx hb hts iwsRX12_readOwn_in12 tyX12 tyX12_ok nmX12 hown hK hP hD hS 0 rfl rfl 33 (by decide) (hts _ hm_r_X12_readOwn_3) (fun _ h9 => h9) rfl (by decide +kernel) rfl rfl (Nat.le_of_ble_eq_true rfl) dX12_readOwn_65 (fun H locs hP hD hS => ?_)
            have hP : va_P (dC, dI) vwCl (WR a k h0 (fT vi 33 (nI fn)) vj vF vG) H := fz_w (WR_i 33 _ rfl) hP
            have hD : va_D A (WR a k h0 (fT vi 33 (nI fn)) vj vF vG) := fz_wD (WR_i 33 _ rfl) hD
            refine lv_aload_n hx hb dX12_readOwn_68 rfl (lv_at hl 0 rfl) ?_
            refine lv_aload_n hx hb dX12_readOwn_69 rfl (lv_at hl 0 rfl) ?_
            refine va_get (D := (dC, dI)) (ci := 12) (v := .int (vi 17)) (C := RX12) (T := TX12) (N := 163) (fs := fM (vS a (fT vi 33 (nI fn)) vj)) hx hb hts iwsRX12_readOwn_in12 hown hK hP 0 rfl rfl 17 (by decide) (hts _ hm_r_X12_readOwn_4) (fun _ h9 => h9) rfl dX12_readOwn_70 ?_
            refine lv_topi (fun y9 hy9 => ?_)
            obtain rfl : (nI an) = y9 := (hy9.trans (ha0)).symm
            refine lv_aload_n hx hb dX12_readOwn_73 rfl (lv_at hl 0 rfl) ?_
            refine va_get (D := (dC, dI)) (ci := 12) (v := .int (vi 19)) (C := RX12) (T := TX12) (N := 163) (fs := fM (vS a (fT vi 33 (nI fn)) vj)) hx hb hts iwsRX12_readOwn_in12 hown hK hP 0 rfl rfl 19 (by decide) (hts _ hm_r_X12_readOwn_2) (fun _ h9 => h9) rfl dX12_readOwn_74 ?_
            refine lv_topi (fun y10 hy10 => ?_)
            obtain rfl : (nI fn) = y10 := (hy10.trans (hfr)).symm
            refine lv_isub hx hb dX12_readOwn_77 ?_
            refine lv_topi (fun y11 hy11 => ?_)
            obtain rfl : (nI (an - fn)) = y11 := (hy11.trans (pk_sub (a := an) (b := fn) (by omega))).symm
            refine va_put (D := (dC, dI)) (ci := 12) (v := .int (nI (an - fn))) (ty := .int) (C := RX12) (T := TX12) (N := 163) (fs := fM (vS a (fT vi 33 (nI fn)) vj)) hx hb hts iwsRX12_readOwn_in12 tyX12 tyX12_ok nmX12 hown hK hP hD hS 0 rfl rfl 34 (by decide) (hts _ hm_r_X12_readOwn_5) (fun _ h9 => h9) rfl (by decide +kernel) rfl rfl (Nat.le_of_ble_eq_true rfl) dX12_readOwn_78 (fun H locs hP hD hS => ?_)
            have hP : va_P (dC, dI) vwCl (WR a k h0 (fT (fT vi 33 (nI fn)) 34 (nI (an - fn))) vj vF vG) H := fz_w (WR_i 34 _ rfl) hP
            have hD : va_D A (WR a k h0 (fT (fT vi 33 (nI fn)) 34 (nI (an - fn))) vj vF vG) := fz_wD (WR_i 34 _ rfl) hD
            refine lv_aload_n hx hb dX12_readOwn_81 rfl (lv_at hl 0 rfl) ?_
            have hFc := allFree hD hS hA
            refine va_callv (va_runV (As := []) (rest := []) ⟨hx, hb, hml, hown, hts⟩ (r_X12_next l dC dI a k h0 (fT (fT vi 33 (nI fn)) 34 (nI (an - fn))) vj vF vG tp an hTp (by first | with_reducible assumption | decide | omega | rfl | assumption) ha0 (by first | with_reducible assumption | decide | omega | rfl | assumption) H.size) (cwV 0 hts gwsRX12_readOwn_1 rfl rfl rfl hd_yX12_next_RX12 (by decide +kernel)) (fz_preE (va_recv hK hP (ci := 12) (q0 := 0) rfl rfl) hP hK hD (fun a U g mk qE => qE.same rfl) (fun U hU9 hW => by rw [hU9]; exact (((hE : StrA A s s.heap).kept hS.2.1).narrow (fun q h => hFc q h)).warm hW)) rfl rfl hl.1 rfl (lv_room (Nat.le_of_ble_eq_true rfl)) dX12_readOwn_82 (by decide +kernel)) hS (fun q _ h => hFc q h) hFc (fun u t9_ H locs ht hvm hw9 hB9 hz1 hk1 hS => ?_)
            revert u hw9 hB9
            refine fz_p4 ?_
            intro a282_1 f282_1 sg82_1 wd82_1 hw9 hB9
            try dsimp only at hw9 hB9
            have hP : va_P (dC, dI) vwCl (WR a k h0 (fT (fT (fT (fT (fT (fT vi 33 (nI fn)) 34 (nI (an - fn))) 17 (nI a282_1)) 19 (nI f282_1)) 20 sg82_1) 18 wd82_1) vj vF vG) H := fz_P ht hB9.1
            have hD := fz_sd hP (hB9.2.weaken (fun _ q _ h => hFc q.1 h)) rfl
            revert hw9
            refine fz_a2 ?_
            intro f82_1_0 f82_1_1
            refine W.widen (k := 0) (n := 0) (by decide +kernel) (by decide +kernel) ?_
            have e9 : fT (fT (fT (fT (fT (fT (fT (fT vi 33 (nI fn)) 34 (nI (an - fn))) 17 (nI a282_1)) 19 (nI f282_1)) 20 sg82_1) 18 wd82_1) 21 (vi 21)) 22 (vi 22) = fT (fT (fT (fT (fT (fT vi 33 (nI fn)) 34 (nI (an - fn))) 17 (nI a282_1)) 19 (nI f282_1)) 20 sg82_1) 18 wd82_1 := Eq.trans (mv_1 rfl) (Eq.trans (id_7 rfl) (id_6 rfl))
            have hP := wr_Pi e9 hP
            have hD := wr_Di e9 hD
            clear e9
            exact W.vret hx hb hr (fun t9_ ht hW => ⟨⟨(a282_1, f282_1, sg82_1, wd82_1, (vi 21), (vi 22), (nI fn), (nI (an - fn))), rfl, by (try dsimp only); exact ⟨f82_1_0, by omega, hst0, Or.inr ⟨i32z (by omega), by omega, by omega, fn, an - fn, rfl, rfl, by omega⟩⟩, by rw [ht]; exact hP, hD⟩, hS.F ht⟩) hS.2.2 dX12_readOwn_85
          · have t_56 : ¬ ((vi 21)).toInt ≤ 0 := toI_nle c_56 rfl (by decide)
            refine W.widen (k := 0) (n := 0) (by decide +kernel) (by decide +kernel) ?_
            have e9 : fT (fT (fT (fT (fT (fT (fT (fT vi 33 (vi 33)) 34 (vi 34)) 17 (nI an)) 19 (nI fn)) 20 (vi 20)) 18 (vi 18)) 21 (vi 21)) 22 (vi 22) = vi := Eq.trans (mv_7 rfl) (Eq.trans (id_7 rfl) (Eq.trans (mv_6 rfl) (Eq.trans (id_6 rfl) (Eq.trans (mv_5 rfl) (Eq.trans (congrArg (fT _ 17) (show nI an = vi 17 from (by first | with_reducible rfl | with_reducible assumption | (symm; with_reducible assumption) | rfl | assumption | (symm; assumption) | (subst_vars; rfl)))) (Eq.trans (id_5 rfl) (Eq.trans (mv_4 rfl) (Eq.trans (congrArg (fT _ 19) (show nI fn = vi 19 from (by first | with_reducible rfl | with_reducible assumption | (symm; with_reducible assumption) | rfl | assumption | (symm; assumption) | (subst_vars; rfl)))) (Eq.trans (id_4 rfl) (Eq.trans (mv_3 rfl) (Eq.trans (id_3 rfl) (Eq.trans (mv_2 rfl) (Eq.trans (id_2 rfl) (Eq.trans (mv_1 rfl) (Eq.trans (id_1 rfl) (id_0 rfl))))))))))))))))
            have hP := wr_Pi e9 hP
            have hD := wr_Di e9 hD
            clear e9
            exact W.vret hx hb hr (fun t9_ ht hW => ⟨⟨(an, fn, (vi 20), (vi 18), (vi 21), (vi 22), (vi 33), (vi 34)), rfl, by (try dsimp only); exact ⟨hLx, Nat.le_refl _, by omega, Or.inl ⟨by omega, rfl, rfl⟩⟩, by rw [ht]; exact hP, hD⟩, hS.F ht⟩) hS.2.2 dX12_readOwn_59
        · have t_40 : ((nm : Nat) : Int) = 40 := toI_nne c_40 (nI_toInt (by omega)) (by decide)
          refine lv_aload_n hx hb dX12_readOwn_43 rfl (lv_at hl 0 rfl) ?_
          refine lv_iconst (v := 4) hx hb dX12_readOwn_44 (by decide) ?_
          refine lv_aload_n hx hb dX12_readOwn_45 rfl (lv_at hl 0 rfl) ?_
          refine va_get (D := (dC, dI)) (ci := 12) (v := .int (vi 19)) (C := RX12) (T := TX12) (N := 163) (fs := fM (vS a vi vj)) hx hb hts iwsRX12_readOwn_in12 hown hK hP 0 rfl rfl 19 (by decide) (hts _ hm_r_X12_readOwn_2) (fun _ h9 => h9) rfl dX12_readOwn_46 ?_
          refine lv_topi (fun y12 hy12 => ?_)
          obtain rfl : (nI fn) = y12 := (hy12.trans (hfr)).symm
          have hFc := allFree hD hS hA
          refine va_callv (va_runV (As := [.int 4, .int (nI fn)]) (rest := []) ⟨hx, hb, hml, hown, hts⟩ (r_X12_faultAt l dC dI a k h0 vi vj vF vG 4 (nI fn) (by first | with_reducible assumption | decide | omega | rfl | assumption) H.size) (cwV 2 hts gwsRX12_readOwn_2 rfl rfl rfl hd_yX12_faultAt_RX12 (by decide +kernel)) (fz_pre (va_recv hK hP (ci := 12) (q0 := 0) rfl rfl) hP hK hD) rfl rfl hl.1 rfl (lv_room (Nat.le_of_ble_eq_true rfl)) dX12_readOwn_49 (by decide +kernel)) hS (fun q _ h => hFc q h) hFc (fun u t9_ H locs ht hvm hw9 hB9 hz1 hk1 hS => ?_)
          revert u hw9 hB9
          refine fz_p2 ?_
          intro s249_1 p249_1 hw9 hB9
          try dsimp only at hw9 hB9
          have hP : va_P (dC, dI) vwCl (WR a k h0 (fT (fT vi 21 s249_1) 22 p249_1) vj vF vG) H := fz_P ht hB9.1
          have hD := fz_sd hP (hB9.2.weaken (fun _ q _ h => hFc q.1 h)) rfl
          revert hw9
          refine fz_a2 ?_
          intro f49_1_0 f49_1_1
          have f49_1_0 : (0 < (vi 21).toInt ∧ s249_1 = (vi 21) ∧ p249_1 = (vi 22)) ∨ (¬ 0 < (vi 21).toInt ∧ s249_1 = 4 ∧ p249_1 = (nI fn)) := f49_1_0
          refine lv_aload_n hx hb dX12_readOwn_52 rfl (lv_at hl 0 rfl) ?_
          refine va_get (D := (dC, dI)) (ci := 12) (v := .int s249_1) (C := RX12) (T := TX12) (N := 163) (fs := fM (vS a (fT (fT vi 21 s249_1) 22 p249_1) vj)) hx hb hts iwsRX12_readOwn_in12 hown hK hP 0 rfl rfl 21 (by decide) (hts _ hm_r_X12_readOwn_1) (fun _ h9 => h9) rfl dX12_readOwn_53 ?_
          refine lv_if_le (tgt := 60) hx hb dX12_readOwn_56 (by decide) (fun c9 => False.elim (by have t9 : (s249_1).toInt ≤ 0 := toI_le c9 rfl (by decide); omega)) (fun c_56 => ?_)
          have t_56 : ¬ (s249_1).toInt ≤ 0 := toI_nle c_56 rfl (by decide)
          refine W.widen (k := 0) (n := 0) (by decide +kernel) (by decide +kernel) ?_
          have e9 : fT (fT (fT (fT (fT (fT (fT (fT vi 33 (vi 33)) 34 (vi 34)) 17 (nI an)) 19 (nI fn)) 20 (vi 20)) 18 (vi 18)) 21 s249_1) 22 p249_1 = fT (fT vi 21 s249_1) 22 p249_1 := Eq.trans (mv_7 rfl) (Eq.trans (id_7 rfl) (Eq.trans (mv_6 rfl) (Eq.trans (id_6 rfl) (Eq.trans (mv_5 rfl) (Eq.trans (congrArg (fT _ 17) (show nI an = vi 17 from (by first | with_reducible rfl | with_reducible assumption | (symm; with_reducible assumption) | rfl | assumption | (symm; assumption) | (subst_vars; rfl)))) (Eq.trans (id_5 rfl) (Eq.trans (mv_4 rfl) (Eq.trans (congrArg (fT _ 19) (show nI fn = vi 19 from (by first | with_reducible rfl | with_reducible assumption | (symm; with_reducible assumption) | rfl | assumption | (symm; assumption) | (subst_vars; rfl)))) (Eq.trans (id_4 rfl) (Eq.trans (mv_3 rfl) (Eq.trans (id_3 rfl) (Eq.trans (mv_2 rfl) (id_2 rfl)))))))))))))
          have hP := wr_Pi e9 hP
          have hD := wr_Di e9 hD
          clear e9
          exact W.vret hx hb hr (fun t9_ ht hW => ⟨⟨(an, fn, (vi 20), (vi 18), s249_1, p249_1, (vi 33), (vi 34)), rfl, by (try dsimp only); exact ⟨hLx, Nat.le_refl _, by omega, Or.inl ⟨by omega, rfl, rfl⟩⟩, by rw [ht]; exact hP, hD⟩, hS.F ht⟩) hS.2.2 dX12_readOwn_59
      · have t_18 : ¬ ((kx14 : Nat) : Int) = -1 := toI_neq c_18 (nI_toInt (by omega)) (by decide)
        refine lv_aload_n hx hb dX12_readOwn_21 rfl (lv_at hl 0 rfl) ?_
        refine lv_bipush (v := 10) hx hb dX12_readOwn_22 (by decide) ?_
        refine lv_aload_n hx hb dX12_readOwn_24 rfl (lv_at hl 0 rfl) ?_
        refine va_get (D := (dC, dI)) (ci := 12) (v := .int (vi 19)) (C := RX12) (T := TX12) (N := 163) (fs := fM (vS a vi vj)) hx hb hts iwsRX12_readOwn_in12 hown hK hP 0 rfl rfl 19 (by decide) (hts _ hm_r_X12_readOwn_2) (fun _ h9 => h9) rfl dX12_readOwn_25 ?_
        refine lv_topi (fun y13 hy13 => ?_)
        obtain rfl : (nI fn) = y13 := (hy13.trans (hfr)).symm
        have hFc := allFree hD hS hA
        refine va_callv (va_runV (As := [.int 10, .int (nI fn)]) (rest := []) ⟨hx, hb, hml, hown, hts⟩ (r_X12_faultAt l dC dI a k h0 vi vj vF vG 10 (nI fn) (by first | with_reducible assumption | decide | omega | rfl | assumption) H.size) (cwV 2 hts gwsRX12_readOwn_2 rfl rfl rfl hd_yX12_faultAt_RX12 (by decide +kernel)) (fz_pre (va_recv hK hP (ci := 12) (q0 := 0) rfl rfl) hP hK hD) rfl rfl hl.1 rfl (lv_room (Nat.le_of_ble_eq_true rfl)) dX12_readOwn_28 (by decide +kernel)) hS (fun q _ h => hFc q h) hFc (fun u t9_ H locs ht hvm hw9 hB9 hz1 hk1 hS => ?_)
        revert u hw9 hB9
        refine fz_p2 ?_
        intro s228 p228 hw9 hB9
        try dsimp only at hw9 hB9
        have hP : va_P (dC, dI) vwCl (WR a k h0 (fT (fT vi 21 s228) 22 p228) vj vF vG) H := fz_P ht hB9.1
        have hD := fz_sd hP (hB9.2.weaken (fun _ q _ h => hFc q.1 h)) rfl
        revert hw9
        refine fz_a2 ?_
        intro f28_0 f28_1
        have f28_0 : (0 < (vi 21).toInt ∧ s228 = (vi 21) ∧ p228 = (vi 22)) ∨ (¬ 0 < (vi 21).toInt ∧ s228 = 10 ∧ p228 = (nI fn)) := f28_0
        refine lv_goto (tgt := 52) hx hb dX12_readOwn_31 (by decide) ?_
        refine lv_aload_n hx hb dX12_readOwn_52 rfl (lv_at hl 0 rfl) ?_
        refine va_get (D := (dC, dI)) (ci := 12) (v := .int s228) (C := RX12) (T := TX12) (N := 163) (fs := fM (vS a (fT (fT vi 21 s228) 22 p228) vj)) hx hb hts iwsRX12_readOwn_in12 hown hK hP 0 rfl rfl 21 (by decide) (hts _ hm_r_X12_readOwn_1) (fun _ h9 => h9) rfl dX12_readOwn_53 ?_
        refine lv_if_le (tgt := 60) hx hb dX12_readOwn_56 (by decide) (fun c9 => False.elim (by have t9 : (s228).toInt ≤ 0 := toI_le c9 rfl (by decide); omega)) (fun c_56 => ?_)
        have t_56 : ¬ (s228).toInt ≤ 0 := toI_nle c_56 rfl (by decide)
        refine W.widen (k := 0) (n := 0) (by decide +kernel) (by decide +kernel) ?_
        have e9 : fT (fT (fT (fT (fT (fT (fT (fT vi 33 (vi 33)) 34 (vi 34)) 17 (nI an)) 19 (nI fn)) 20 (vi 20)) 18 (vi 18)) 21 s228) 22 p228 = fT (fT vi 21 s228) 22 p228 := Eq.trans (mv_7 rfl) (Eq.trans (id_7 rfl) (Eq.trans (mv_6 rfl) (Eq.trans (id_6 rfl) (Eq.trans (mv_5 rfl) (Eq.trans (congrArg (fT _ 17) (show nI an = vi 17 from (by first | with_reducible rfl | with_reducible assumption | (symm; with_reducible assumption) | rfl | assumption | (symm; assumption) | (subst_vars; rfl)))) (Eq.trans (id_5 rfl) (Eq.trans (mv_4 rfl) (Eq.trans (congrArg (fT _ 19) (show nI fn = vi 19 from (by first | with_reducible rfl | with_reducible assumption | (symm; with_reducible assumption) | rfl | assumption | (symm; assumption) | (subst_vars; rfl)))) (Eq.trans (id_4 rfl) (Eq.trans (mv_3 rfl) (Eq.trans (id_3 rfl) (Eq.trans (mv_2 rfl) (id_2 rfl)))))))))))))
        have hP := wr_Pi e9 hP
        have hD := wr_Di e9 hD
        clear e9
        exact W.vret hx hb hr (fun t9_ ht hW => ⟨⟨(an, fn, (vi 20), (vi 18), s228, p228, (vi 33), (vi 34)), rfl, by (try dsimp only); exact ⟨hLx, Nat.le_refl _, by omega, Or.inl ⟨by omega, rfl, rfl⟩⟩, by rw [ht]; exact hP, hD⟩, hS.F ht⟩) hS.2.2 dX12_readOwn_59
  · have t_5 : ¬ ((vi 18)).toInt = 1 := toI_neq c_5 rfl (by decide)
    refine lv_aload_n hx hb dX12_readOwn_8 rfl (lv_at hl 0 rfl) ?_
    have hFc := allFree hD hS hA
    refine va_callv (va_runV (As := []) (rest := []) ⟨hx, hb, hml, hown, hts⟩ (r_X12_wrong l dC dI a k h0 vi vj vF vG s.heap.size) (cwV 0 hts gwsRX12_readOwn_3 rfl rfl rfl hd_yX12_wrong_RX12 (by decide +kernel)) (fz_pre (va_recv hK hP (ci := 12) (q0 := 0) rfl rfl) hP hK hD) rfl rfl hl.1 rfl (lv_room (Nat.le_of_ble_eq_true rfl)) dX12_readOwn_9 (by decide +kernel)) hS (fun q _ h => hFc q h) hFc (fun u t9_ H locs ht hvm hw9 hB9 hz1 hk1 hS => ?_)
    revert u hw9 hB9
    refine fz_p2 ?_
    intro s29 p29 hw9 hB9
    try dsimp only at hw9 hB9
    have hP : va_P (dC, dI) vwCl (WR a k h0 (fT (fT vi 21 s29) 22 p29) vj vF vG) H := fz_P ht hB9.1
    have hD := fz_sd hP (hB9.2.weaken (fun _ q _ h => hFc q.1 h)) rfl
    revert hw9
    refine fz_a2 ?_
    intro f9_0 f9_1
    have f9_0 : (0 < (vi 21).toInt ∧ s29 = (vi 21) ∧ p29 = (vi 22)) ∨ (¬ 0 < (vi 21).toInt ∧ (s29 = 1 ∨ s29 = 2) ∧ p29 = (vi 19)) := f9_0
    refine W.widen (k := 0) (n := 0) (by decide +kernel) (by decide +kernel) ?_
    have e9 : fT (fT (fT (fT (fT (fT (fT (fT vi 33 (vi 33)) 34 (vi 34)) 17 (nI an)) 19 (nI fn)) 20 (vi 20)) 18 (vi 18)) 21 s29) 22 p29 = fT (fT vi 21 s29) 22 p29 := Eq.trans (mv_7 rfl) (Eq.trans (id_7 rfl) (Eq.trans (mv_6 rfl) (Eq.trans (id_6 rfl) (Eq.trans (mv_5 rfl) (Eq.trans (congrArg (fT _ 17) (show nI an = vi 17 from (by first | with_reducible rfl | with_reducible assumption | (symm; with_reducible assumption) | rfl | assumption | (symm; assumption) | (subst_vars; rfl)))) (Eq.trans (id_5 rfl) (Eq.trans (mv_4 rfl) (Eq.trans (congrArg (fT _ 19) (show nI fn = vi 19 from (by first | with_reducible rfl | with_reducible assumption | (symm; with_reducible assumption) | rfl | assumption | (symm; assumption) | (subst_vars; rfl)))) (Eq.trans (id_4 rfl) (Eq.trans (mv_3 rfl) (Eq.trans (id_3 rfl) (Eq.trans (mv_2 rfl) (id_2 rfl)))))))))))))
    have hP := wr_Pi e9 hP
    have hD := wr_Di e9 hD
    clear e9
    exact W.vret hx hb hr (fun t9_ ht hW => ⟨⟨(an, fn, (vi 20), (vi 18), s29, p29, (vi 33), (vi 34)), rfl, by (try dsimp only); exact ⟨hLx, Nat.le_refl _, by omega, Or.inl ⟨f9_1, rfl, rfl⟩⟩, by rw [ht]; exact hP, hD⟩, hS.F ht⟩) hS.2.2 dX12_readOwn_12
theorem dX12_placeMembers_0 : decode cX12_placeMembers 0 = .ok (.aload_n 0, 1) := dk_42 (by decide +kernel)
theorem dX12_placeMembers_1 : decode cX12_placeMembers 1 = .ok (.getfield 705, 3) := dk_180 (by decide +kernel)
theorem dX12_placeMembers_4 : decode cX12_placeMembers 4 = .ok (.ifCond .ne 7, 3) := dk_154 (by decide +kernel)
theorem dX12_placeMembers_7 : decode cX12_placeMembers 7 = .ok (.iconst 1, 1) := dk_4 (by decide +kernel)
theorem dX12_placeMembers_8 : decode cX12_placeMembers 8 = .ok (.goto 42, 3) := dk_167 (by decide +kernel)
theorem dX12_placeMembers_11 : decode cX12_placeMembers 11 = .ok (.aload_n 0, 1) := dk_42 (by decide +kernel)
theorem dX12_placeMembers_12 : decode cX12_placeMembers 12 = .ok (.getfield 705, 3) := dk_180 (by decide +kernel)
theorem dX12_placeMembers_15 : decode cX12_placeMembers 15 = .ok (.iconst 1, 1) := dk_4 (by decide +kernel)
theorem dX12_placeMembers_16 : decode cX12_placeMembers 16 = .ok (.if_icmp .ne 15, 3) := dk_160 (by decide +kernel)
theorem dX12_placeMembers_19 : decode cX12_placeMembers 19 = .ok (.aload_n 0, 1) := dk_42 (by decide +kernel)
theorem dX12_placeMembers_20 : decode cX12_placeMembers 20 = .ok (.getfield 74, 3) := dk_180 (by decide +kernel)
theorem dX12_placeMembers_23 : decode cX12_placeMembers 23 = .ok (.aload_n 0, 1) := dk_42 (by decide +kernel)
theorem dX12_placeMembers_24 : decode cX12_placeMembers 24 = .ok (.getfield 708, 3) := dk_180 (by decide +kernel)
theorem dX12_placeMembers_27 : decode cX12_placeMembers 27 = .ok (.iaload, 1) := dk_46 (by decide +kernel)
theorem dX12_placeMembers_28 : decode cX12_placeMembers 28 = .ok (.goto 22, 3) := dk_167 (by decide +kernel)
theorem dX12_placeMembers_31 : decode cX12_placeMembers 31 = .ok (.aload_n 0, 1) := dk_42 (by decide +kernel)
theorem dX12_placeMembers_32 : decode cX12_placeMembers 32 = .ok (.getfield 74, 3) := dk_180 (by decide +kernel)
theorem dX12_placeMembers_35 : decode cX12_placeMembers 35 = .ok (.aload_n 0, 1) := dk_42 (by decide +kernel)
theorem dX12_placeMembers_36 : decode cX12_placeMembers 36 = .ok (.getfield 708, 3) := dk_180 (by decide +kernel)
theorem dX12_placeMembers_39 : decode cX12_placeMembers 39 = .ok (.iaload, 1) := dk_46 (by decide +kernel)
theorem dX12_placeMembers_40 : decode cX12_placeMembers 40 = .ok (.aload_n 0, 1) := dk_42 (by decide +kernel)
theorem dX12_placeMembers_41 : decode cX12_placeMembers 41 = .ok (.getfield 74, 3) := dk_180 (by decide +kernel)
theorem dX12_placeMembers_44 : decode cX12_placeMembers 44 = .ok (.aload_n 0, 1) := dk_42 (by decide +kernel)
theorem dX12_placeMembers_45 : decode cX12_placeMembers 45 = .ok (.getfield 711, 3) := dk_180 (by decide +kernel)
theorem dX12_placeMembers_48 : decode cX12_placeMembers 48 = .ok (.iaload, 1) := dk_46 (by decide +kernel)
theorem dX12_placeMembers_49 : decode cX12_placeMembers 49 = .ok (.imul, 1) := dk_104 (by decide +kernel)
theorem dX12_placeMembers_50 : decode cX12_placeMembers 50 = .ok (.ireturn, 1) := dk_172 (by decide +kernel)
def wsRX12_placeMembers : List Cond := .code yX12_placeMembers cX12_placeMembers 1 (some .int) :: ([.fieldLink RX12 705 "OptimaWorksModel" "places" "I", .fieldLink RX12 74 "OptimaWorksModel" "setMany" "[I", .fieldLink RX12 708 "OptimaWorksModel" "placeOne" "I", .fieldLink RX12 711 "OptimaWorksModel" "placeTwo" "I"] ++ wsX120)
theorem iwsRX12_placeMembers_in12 : ∀ w ∈ wsX120, w ∈ wsRX12_placeMembers := fun _ h => List.mem_cons_of_mem _ (List.mem_append_right _ h)
theorem gdwsRX12_placeMembers : wsRX12_placeMembers.all goodWord = true := gdC rfl (gdA (by decide +kernel : ([.fieldLink RX12 705 "OptimaWorksModel" "places" "I", .fieldLink RX12 74 "OptimaWorksModel" "setMany" "[I", .fieldLink RX12 708 "OptimaWorksModel" "placeOne" "I", .fieldLink RX12 711 "OptimaWorksModel" "placeTwo" "I"] : List Cond).all goodWord = true) gdwsX120)
theorem hm_r_X12_placeMembers_0 : (.fieldLink RX12 705 "OptimaWorksModel" "places" "I" : Cond) ∈ wsRX12_placeMembers := by decide +kernel
theorem hm_r_X12_placeMembers_1 : (.fieldLink RX12 74 "OptimaWorksModel" "setMany" "[I" : Cond) ∈ wsRX12_placeMembers := by decide +kernel
theorem hm_r_X12_placeMembers_2 : (.fieldLink RX12 708 "OptimaWorksModel" "placeOne" "I" : Cond) ∈ wsRX12_placeMembers := by decide +kernel
set_option maxHeartbeats 4000000 in
set_option maxRecDepth 100000 in
/-- placeMembers() -/
theorem r_X12_placeMembers (l : Launch) (dC : Nat → ClassId) (dI : Nat → Nat → Nat) (a : Nat → Nat) (k : Nat → ClassId) (h0 : Nat) (vi : Nat → Int32) (vj : Nat → Int64) (vF : Nat → Nat → Int32) (vG : Nat → Nat → Int64) (pl : Nat) (o1 : Nat) (o2 : Nat) (se : Nat) (hse44 : se ≤ 44) (hSe : SeO (vF 16) (vF 17) se) (hps : vi 110 = nI pl) (hpo : vi 111 = nI o1) (hpt : vi 112 = nI o2) (hpl : pl ≤ 2 ∧ (1 ≤ pl → o1 < se) ∧ (pl = 2 → o2 < se)) (sz : Nat) : Met l yX12_placeMembers wsRX12_placeMembers ({ frames := 0, cells := 0, slots := 0, locals := 0 }) (va_Pc [.ref h0] (fun U => U.heap.size = sz ∧ va_P (dC, dI) vwCl (WR a k h0 vi vj vF vG) U.heap ∧ va_K (dC, dI) vwCl (tX12 k) U ∧ va_D (fun _ => True) (WR a k h0 vi vj vF vG))) (va_Qi (fun (r : Int32) (u : Nat) => r = (nI u) ∧ (1 ≤ u ∧ u ≤ 144) ∧ (MemP (vF 17) pl o1 o2 u)) (fun (u : Nat) t => va_P (dC, dI) vwCl (WR a k h0 vi vj vF vG) t.heap ∧ va_D (va_A (WR a k h0 vi vj vF vG) sz) (WR a k h0 vi vj vF vG)) (va_A (WR a k h0 vi vj vF vG) sz)) 0 0 (va_A (WR a k h0 vi vj vF vG) sz) := by
  refine Met.ofW (cc := cX12_placeMembers) (maxL := 1) (ret := (some .int)) (by decide) rfl ?_
  intro p e s m args below meth c s₁ B hml hv
  obtain ⟨rfl, hsz, hP, hK, hD0⟩ := hv
  have hx := B.exec
  have hb := B.bytes
  have hr := B.returns
  have hts := atoms_spec (ws := wsRX12_placeMembers) B.pre
  have hown : s.vm.findClass RX12 = some m.cls := findClass_of_methodNamed B.named
  have hlocks := B.notSynchronized
  subst hsz
  have hD := hD0.self (sz := s.heap.size)
  generalize hAe : va_A (WR a k h0 vi vj vF vG) s.heap.size = A at hD ⊢
  have hA : ∀ q : Nat, s.heap.size ≤ q → A q := fun q h => by rw [← hAe]; exact Or.inr h
  have hS : va_S A s.heap s.heap [] := va_S.rf
  have hl := lv_entry ([.ref h0]) (n := 1) (Nat.le_of_ble_eq_true rfl)
  rw [lg_entry_eq]
  generalize (lg_sl ([.ref h0]) ++ List.replicate (1 - (lg_sl ([.ref h0])).length) Slot.unset).toArray = ls at hl ⊢
  have hl : lv_has ls 1 [(0, .ref h0)] := hl
  refine lv_aload_n hx hb dX12_placeMembers_0 rfl (lv_at hl 0 rfl) ?_
  refine va_get (D := (dC, dI)) (ci := 12) (v := .int (vi 110)) (C := RX12) (T := TX12) (N := 163) (fs := fM (vS a vi vj)) hx hb hts iwsRX12_placeMembers_in12 hown hK hP 0 rfl rfl 110 (by decide) (hts _ hm_r_X12_placeMembers_0) (fun _ h9 => h9) rfl dX12_placeMembers_1 ?_
  refine lv_topi (fun y1 hy1 => ?_)
  obtain rfl : (nI pl) = y1 := (hy1.trans (hps)).symm
  refine lv_if_ne (tgt := 11) hx hb dX12_placeMembers_4 (by decide) (fun c_4 => ?_) (fun c_4 => ?_)
  · have t_4 : ((pl : Nat) : Int) ≠ 0 := toI_ne c_4 (nI_toInt (by omega)) (by decide)
    refine lv_aload_n hx hb dX12_placeMembers_11 rfl (lv_at hl 0 rfl) ?_
    refine va_get (D := (dC, dI)) (ci := 12) (v := .int (vi 110)) (C := RX12) (T := TX12) (N := 163) (fs := fM (vS a vi vj)) hx hb hts iwsRX12_placeMembers_in12 hown hK hP 0 rfl rfl 110 (by decide) (hts _ hm_r_X12_placeMembers_0) (fun _ h9 => h9) rfl dX12_placeMembers_12 ?_
    refine lv_topi (fun y2 hy2 => ?_)
    obtain rfl : (nI pl) = y2 := (hy2.trans (hps)).symm
    refine lv_iconst (v := 1) hx hb dX12_placeMembers_15 (by decide) ?_
    refine lv_icmp_ne (tgt := 31) hx hb dX12_placeMembers_16 (by decide) (fun c_16 => ?_) (fun c_16 => ?_)
    · have t_16 : ((pl : Nat) : Int) ≠ 1 := toI_ne c_16 (nI_toInt (by omega)) (by decide)
      obtain ⟨⟨m1, hm1, hm2, em1⟩, _⟩ := hSe o1 (by omega)
      obtain ⟨⟨m2, hn1, hn2, em2⟩, _⟩ := hSe o2 (by omega)
      refine lv_aload_n hx hb dX12_placeMembers_31 rfl (lv_at hl 0 rfl) ?_
      refine va_get (D := (dC, dI)) (ci := 12) (v := .ref (a 17)) (C := RX12) (T := TX12) (N := 163) (fs := fM (vS a vi vj)) hx hb hts iwsRX12_placeMembers_in12 hown hK hP 0 rfl rfl 40 (by decide) (hts _ hm_r_X12_placeMembers_1) (fun _ h9 => h9) rfl dX12_placeMembers_32 ?_
      refine lv_aload_n hx hb dX12_placeMembers_35 rfl (lv_at hl 0 rfl) ?_
      refine va_get (D := (dC, dI)) (ci := 12) (v := .int (vi 111)) (C := RX12) (T := TX12) (N := 163) (fs := fM (vS a vi vj)) hx hb hts iwsRX12_placeMembers_in12 hown hK hP 0 rfl rfl 111 (by decide) (hts _ hm_r_X12_placeMembers_2) (fun _ h9 => h9) rfl dX12_placeMembers_36 ?_
      refine lv_topi (fun y3 hy3 => ?_)
      obtain rfl : (nI o1) = y3 := (hy3.trans (hpo)).symm
      refine va_iald (cA := k 17) (n := 44) (f := (vF 17)) hx hb hK hP 18 17 (WR_get 17 (by decide)) (TR_get 17 (by decide)) (vp_in_nI (show o1 < 44 by omega) (by omega)) dX12_placeMembers_39 ?_
      refine lv_topi (fun y4 hy4 => ?_)
      obtain rfl : ((vF 17) o1) = y4 := (hy4.trans (by rw [nI_clamp (by omega)])).symm
      refine lv_topi (fun y5 hy5 => ?_)
      obtain rfl : (nI m1) = y5 := (hy5.trans (em1)).symm
      refine lv_aload_n hx hb dX12_placeMembers_40 rfl (lv_at hl 0 rfl) ?_
      refine va_get (D := (dC, dI)) (ci := 12) (v := .ref (a 17)) (C := RX12) (T := TX12) (N := 163) (fs := fM (vS a vi vj)) hx hb hts iwsRX12_placeMembers_in12 hown hK hP 0 rfl rfl 40 (by decide) (hts _ hm_r_X12_placeMembers_1) (fun _ h9 => h9) rfl dX12_placeMembers_41 ?_
      refine lv_aload_n hx hb dX12_placeMembers_44 rfl (lv_at hl 0 rfl) ?_
      refine va_get (D := (dC, dI)) (ci := 12) (v := .int (vi 112)) (C := RX12) (T := TX12) (N := 163) (fs := fM (vS a vi vj)) hx hb hts iwsRX12_placeMembers_in12 hown hK hP 0 rfl rfl 112 (by decide) (hts (.fieldLink RX12 711 "OptimaWorksModel" "placeTwo" "I") (by decide +kernel)) (fun _ h9 => h9) rfl dX12_placeMembers_45 ?_
      refine lv_topi (fun y6 hy6 => ?_)
      obtain rfl : (nI o2) = y6 := (hy6.trans (hpt)).symm
      refine va_iald (cA := k 17) (n := 44) (f := (vF 17)) hx hb hK hP 18 17 (WR_get 17 (by decide)) (TR_get 17 (by decide)) (vp_in_nI (show o2 < 44 by omega) (by omega)) dX12_placeMembers_48 ?_
      refine lv_topi (fun y7 hy7 => ?_)
      obtain rfl : ((vF 17) o2) = y7 := (hy7.trans (by rw [nI_clamp (by omega)])).symm
      refine lv_topi (fun y8 hy8 => ?_)
      obtain rfl : (nI m2) = y8 := (hy8.trans (em2)).symm
      refine lv_imul hx hb dX12_placeMembers_49 ?_
      refine lv_topi (fun y9 hy9 => ?_)
      obtain rfl : (nI (m1 * m2)) = y9 := (hy9.trans (pk_mul m1 m2)).symm
      refine W.widen (k := 0) (n := 0) (by decide +kernel) (by decide +kernel) ?_
      exact W.iret (v := (nI (m1 * m2))) hx hb hr (fun t9_ ht hW => ⟨⟨(nI (m1 * m2)), (m1 * m2), rfl, by (try dsimp only); exact ⟨rfl, by (have h1 : 1 * 1 ≤ m1 * m2 := Nat.mul_le_mul hm1 hn1); (have h2 : m1 * m2 ≤ 12 * 12 := Nat.mul_le_mul hm2 hn2); omega, MemP.m2 (by omega) em1 hm2 em2 hn2⟩, by rw [ht]; exact hP, hD⟩, hS.F ht⟩) hS.2.2 dX12_placeMembers_50
    · have t_16 : ((pl : Nat) : Int) = 1 := toI_nne c_16 (nI_toInt (by omega)) (by decide)
      obtain ⟨⟨m1, hm1, hm2, em1⟩, _⟩ := hSe o1 (by omega)
      refine lv_aload_n hx hb dX12_placeMembers_19 rfl (lv_at hl 0 rfl) ?_
      refine va_get (D := (dC, dI)) (ci := 12) (v := .ref (a 17)) (C := RX12) (T := TX12) (N := 163) (fs := fM (vS a vi vj)) hx hb hts iwsRX12_placeMembers_in12 hown hK hP 0 rfl rfl 40 (by decide) (hts _ hm_r_X12_placeMembers_1) (fun _ h9 => h9) rfl dX12_placeMembers_20 ?_
      refine lv_aload_n hx hb dX12_placeMembers_23 rfl (lv_at hl 0 rfl) ?_
      refine va_get (D := (dC, dI)) (ci := 12) (v := .int (vi 111)) (C := RX12) (T := TX12) (N := 163) (fs := fM (vS a vi vj)) hx hb hts iwsRX12_placeMembers_in12 hown hK hP 0 rfl rfl 111 (by decide) (hts _ hm_r_X12_placeMembers_2) (fun _ h9 => h9) rfl dX12_placeMembers_24 ?_
      refine lv_topi (fun y10 hy10 => ?_)
      obtain rfl : (nI o1) = y10 := (hy10.trans (hpo)).symm
      refine va_iald (cA := k 17) (n := 44) (f := (vF 17)) hx hb hK hP 18 17 (WR_get 17 (by decide)) (TR_get 17 (by decide)) (vp_in_nI (show o1 < 44 by omega) (by omega)) dX12_placeMembers_27 ?_
      refine lv_topi (fun y11 hy11 => ?_)
      obtain rfl : ((vF 17) o1) = y11 := (hy11.trans (by rw [nI_clamp (by omega)])).symm
      refine lv_topi (fun y12 hy12 => ?_)
      obtain rfl : (nI m1) = y12 := (hy12.trans (em1)).symm
      refine lv_goto (tgt := 50) hx hb dX12_placeMembers_28 (by decide) ?_
      refine W.widen (k := 0) (n := 0) (by decide +kernel) (by decide +kernel) ?_
      exact W.iret (v := (nI m1)) hx hb hr (fun t9_ ht hW => ⟨⟨(nI m1), m1, rfl, by (try dsimp only); exact ⟨rfl, by omega, MemP.m1 (by omega) em1 hm2⟩, by rw [ht]; exact hP, hD⟩, hS.F ht⟩) hS.2.2 dX12_placeMembers_50
  · have t_4 : ((pl : Nat) : Int) = 0 := toI_nne c_4 (nI_toInt (by omega)) (by decide)
    refine lv_iconst (v := 1) hx hb dX12_placeMembers_7 (by decide) ?_
    refine lv_goto (tgt := 50) hx hb dX12_placeMembers_8 (by decide) ?_
    refine W.widen (k := 0) (n := 0) (by decide +kernel) (by decide +kernel) ?_
    exact W.iret (v := 1) hx hb hr (fun t9_ ht hW => ⟨⟨1, 1, rfl, by (try dsimp only); exact ⟨by decide, by omega, MemP.m0 (by omega)⟩, by rw [ht]; exact hP, hD⟩, hS.F ht⟩) hS.2.2 dX12_placeMembers_50
end
section
theorem hd_yX12_binder_RX12 : yX12_binder.cls = RX12 ∧ yX12_binder.cls ≠ "java/lang/invoke/MethodHandle" ∧ yX12_binder.cls ≠ "java/lang/invoke/VarHandle" ∧ (parseMethodDescriptor yX12_binder.desc).map (fun d => d.parameters.length) = some 0 := by decide +kernel
theorem hd_yX12_needKey_RX12 : yX12_needKey.cls = RX12 ∧ yX12_needKey.cls ≠ "java/lang/invoke/MethodHandle" ∧ yX12_needKey.cls ≠ "java/lang/invoke/VarHandle" ∧ (parseMethodDescriptor yX12_needKey.desc).map (fun d => d.parameters.length) = some 1 := by decide +kernel
theorem hd_yX12_readSet_RX12 : yX12_readSet.cls = RX12 ∧ yX12_readSet.cls ≠ "java/lang/invoke/MethodHandle" ∧ yX12_readSet.cls ≠ "java/lang/invoke/VarHandle" ∧ (parseMethodDescriptor yX12_readSet.desc).map (fun d => d.parameters.length) = some 0 := by decide +kernel
theorem hd_yX12_readBinder_RX12 : yX12_readBinder.cls = RX12 ∧ yX12_readBinder.cls ≠ "java/lang/invoke/MethodHandle" ∧ yX12_readBinder.cls ≠ "java/lang/invoke/VarHandle" ∧ (parseMethodDescriptor yX12_readBinder.desc).map (fun d => d.parameters.length) = some 0 := by decide +kernel
theorem dX12_readBinder_0 : decode cX12_readBinder 0 = .ok (.aload_n 0, 1) := dk_42 (by decide +kernel)
theorem dX12_readBinder_1 : decode cX12_readBinder 1 = .ok (.getfield 494, 3) := dk_180 (by decide +kernel)
theorem dX12_readBinder_4 : decode cX12_readBinder 4 = .ok (.iconst 1, 1) := dk_4 (by decide +kernel)
theorem dX12_readBinder_5 : decode cX12_readBinder 5 = .ok (.if_icmp .eq 9, 3) := dk_159 (by decide +kernel)
theorem dX12_readBinder_8 : decode cX12_readBinder 8 = .ok (.aload_n 0, 1) := dk_42 (by decide +kernel)
theorem dX12_readBinder_9 : decode cX12_readBinder 9 = .ok (.invokevirtual 527, 3) := dk_182 (by decide +kernel)
theorem dX12_readBinder_12 : decode cX12_readBinder 12 = .ok (.iconst 0, 1) := dk_3 (by decide +kernel)
theorem dX12_readBinder_13 : decode cX12_readBinder 13 = .ok (.ireturn, 1) := dk_172 (by decide +kernel)
theorem dX12_readBinder_14 : decode cX12_readBinder 14 = .ok (.aload_n 0, 1) := dk_42 (by decide +kernel)
theorem dX12_readBinder_15 : decode cX12_readBinder 15 = .ok (.getfield 68, 3) := dk_180 (by decide +kernel)
theorem dX12_readBinder_18 : decode cX12_readBinder 18 = .ok (.iconst (-1), 1) := dk_2 (by decide +kernel)
theorem dX12_readBinder_19 : decode cX12_readBinder 19 = .ok (.if_icmp .eq 35, 3) := dk_159 (by decide +kernel)
theorem dX12_readBinder_22 : decode cX12_readBinder 22 = .ok (.aload_n 0, 1) := dk_42 (by decide +kernel)
theorem dX12_readBinder_23 : decode cX12_readBinder 23 = .ok (.aload_n 0, 1) := dk_42 (by decide +kernel)
theorem dX12_readBinder_24 : decode cX12_readBinder 24 = .ok (.getfield 68, 3) := dk_180 (by decide +kernel)
theorem dX12_readBinder_27 : decode cX12_readBinder 27 = .ok (.aload_n 0, 1) := dk_42 (by decide +kernel)
theorem dX12_readBinder_28 : decode cX12_readBinder 28 = .ok (.getfield 552, 3) := dk_180 (by decide +kernel)
theorem dX12_readBinder_31 : decode cX12_readBinder 31 = .ok (.aload_n 0, 1) := dk_42 (by decide +kernel)
theorem dX12_readBinder_32 : decode cX12_readBinder 32 = .ok (.getfield 488, 3) := dk_180 (by decide +kernel)
theorem dX12_readBinder_35 : decode cX12_readBinder 35 = .ok (.aload_n 0, 1) := dk_42 (by decide +kernel)
theorem dX12_readBinder_36 : decode cX12_readBinder 36 = .ok (.getfield 485, 3) := dk_180 (by decide +kernel)
theorem dX12_readBinder_39 : decode cX12_readBinder 39 = .ok (.aload_n 0, 1) := dk_42 (by decide +kernel)
theorem dX12_readBinder_40 : decode cX12_readBinder 40 = .ok (.getfield 488, 3) := dk_180 (by decide +kernel)
theorem dX12_readBinder_43 : decode cX12_readBinder 43 = .ok (.isub, 1) := dk_100 (by decide +kernel)
theorem dX12_readBinder_44 : decode cX12_readBinder 44 = .ok (.invokevirtual 536, 3) := dk_182 (by decide +kernel)
theorem dX12_readBinder_47 : decode cX12_readBinder 47 = .ok (.ifCond .eq 7, 3) := dk_153 (by decide +kernel)
theorem dX12_readBinder_50 : decode cX12_readBinder 50 = .ok (.iconst 1, 1) := dk_4 (by decide +kernel)
theorem dX12_readBinder_51 : decode cX12_readBinder 51 = .ok (.goto 4, 3) := dk_167 (by decide +kernel)
theorem dX12_readBinder_54 : decode cX12_readBinder 54 = .ok (.iconst 0, 1) := dk_3 (by decide +kernel)
theorem dX12_readBinder_55 : decode cX12_readBinder 55 = .ok (.istore_n 1, 1) := dk_60 (by decide +kernel)
theorem dX12_readBinder_56 : decode cX12_readBinder 56 = .ok (.aload_n 0, 1) := dk_42 (by decide +kernel)
theorem dX12_readBinder_57 : decode cX12_readBinder 57 = .ok (.invokevirtual 555, 3) := dk_182 (by decide +kernel)
theorem dX12_readBinder_60 : decode cX12_readBinder 60 = .ok (.iconst (-1), 1) := dk_2 (by decide +kernel)
theorem dX12_readBinder_61 : decode cX12_readBinder 61 = .ok (.if_icmp .ne 15, 3) := dk_160 (by decide +kernel)
theorem dX12_readBinder_64 : decode cX12_readBinder 64 = .ok (.iload_n 1, 1) := dk_27 (by decide +kernel)
theorem dX12_readBinder_65 : decode cX12_readBinder 65 = .ok (.ifCond .ne 11, 3) := dk_154 (by decide +kernel)
theorem dX12_readBinder_68 : decode cX12_readBinder 68 = .ok (.aload_n 0, 1) := dk_42 (by decide +kernel)
theorem dX12_readBinder_69 : decode cX12_readBinder 69 = .ok (.invokevirtual 558, 3) := dk_182 (by decide +kernel)
theorem dX12_readBinder_72 : decode cX12_readBinder 72 = .ok (.iconst (-1), 1) := dk_2 (by decide +kernel)
theorem dX12_readBinder_73 : decode cX12_readBinder 73 = .ok (.if_icmp .eq 13, 3) := dk_159 (by decide +kernel)
theorem dX12_readBinder_76 : decode cX12_readBinder 76 = .ok (.aload_n 0, 1) := dk_42 (by decide +kernel)
theorem dX12_readBinder_77 : decode cX12_readBinder 77 = .ok (.bipush 10, 2) := dk_16 (by decide +kernel)
theorem dX12_readBinder_79 : decode cX12_readBinder 79 = .ok (.aload_n 0, 1) := dk_42 (by decide +kernel)
theorem dX12_readBinder_80 : decode cX12_readBinder 80 = .ok (.getfield 488, 3) := dk_180 (by decide +kernel)
theorem dX12_readBinder_83 : decode cX12_readBinder 83 = .ok (.invokevirtual 518, 3) := dk_182 (by decide +kernel)
theorem dX12_readBinder_86 : decode cX12_readBinder 86 = .ok (.aload_n 0, 1) := dk_42 (by decide +kernel)
theorem dX12_readBinder_87 : decode cX12_readBinder 87 = .ok (.getfield 515, 3) := dk_180 (by decide +kernel)
theorem dX12_readBinder_90 : decode cX12_readBinder 90 = .ok (.ifCond .le 5, 3) := dk_158 (by decide +kernel)
theorem dX12_readBinder_93 : decode cX12_readBinder 93 = .ok (.iconst 0, 1) := dk_3 (by decide +kernel)
theorem dX12_readBinder_94 : decode cX12_readBinder 94 = .ok (.ireturn, 1) := dk_172 (by decide +kernel)
theorem dX12_readBinder_95 : decode cX12_readBinder 95 = .ok (.aload_n 0, 1) := dk_42 (by decide +kernel)
theorem dX12_readBinder_96 : decode cX12_readBinder 96 = .ok (.getfield 488, 3) := dk_180 (by decide +kernel)
theorem dX12_readBinder_99 : decode cX12_readBinder 99 = .ok (.istore_n 2, 1) := dk_61 (by decide +kernel)
theorem dX12_readBinder_100 : decode cX12_readBinder 100 = .ok (.aload_n 0, 1) := dk_42 (by decide +kernel)
theorem dX12_readBinder_101 : decode cX12_readBinder 101 = .ok (.getfield 485, 3) := dk_180 (by decide +kernel)
theorem dX12_readBinder_104 : decode cX12_readBinder 104 = .ok (.aload_n 0, 1) := dk_42 (by decide +kernel)
theorem dX12_readBinder_105 : decode cX12_readBinder 105 = .ok (.getfield 488, 3) := dk_180 (by decide +kernel)
theorem dX12_readBinder_108 : decode cX12_readBinder 108 = .ok (.isub, 1) := dk_100 (by decide +kernel)
theorem dX12_readBinder_109 : decode cX12_readBinder 109 = .ok (.istore_n 3, 1) := dk_62 (by decide +kernel)
theorem dX12_readBinder_110 : decode cX12_readBinder 110 = .ok (.aload_n 0, 1) := dk_42 (by decide +kernel)
theorem dX12_readBinder_111 : decode cX12_readBinder 111 = .ok (.invokevirtual 524, 3) := dk_182 (by decide +kernel)
theorem dX12_readBinder_114 : decode cX12_readBinder 114 = .ok (.aload_n 0, 1) := dk_42 (by decide +kernel)
theorem dX12_readBinder_115 : decode cX12_readBinder 115 = .ok (.bipush 11, 2) := dk_16 (by decide +kernel)
theorem dX12_readBinder_117 : decode cX12_readBinder 117 = .ok (.invokevirtual 561, 3) := dk_182 (by decide +kernel)
theorem dX12_readBinder_120 : decode cX12_readBinder 120 = .ok (.ifCond .ne 5, 3) := dk_154 (by decide +kernel)
theorem dX12_readBinder_123 : decode cX12_readBinder 123 = .ok (.iconst 0, 1) := dk_3 (by decide +kernel)
theorem dX12_readBinder_124 : decode cX12_readBinder 124 = .ok (.ireturn, 1) := dk_172 (by decide +kernel)
theorem dX12_readBinder_125 : decode cX12_readBinder 125 = .ok (.aload_n 0, 1) := dk_42 (by decide +kernel)
theorem dX12_readBinder_126 : decode cX12_readBinder 126 = .ok (.invokevirtual 564, 3) := dk_182 (by decide +kernel)
theorem dX12_readBinder_129 : decode cX12_readBinder 129 = .ok (.istore 4, 2) := dk_54 (by decide +kernel)
theorem dX12_readBinder_131 : decode cX12_readBinder 131 = .ok (.aload_n 0, 1) := dk_42 (by decide +kernel)
theorem dX12_readBinder_132 : decode cX12_readBinder 132 = .ok (.getfield 62, 3) := dk_180 (by decide +kernel)
theorem dX12_readBinder_135 : decode cX12_readBinder 135 = .ok (.aload_n 0, 1) := dk_42 (by decide +kernel)
theorem dX12_readBinder_136 : decode cX12_readBinder 136 = .ok (.getfield 540, 3) := dk_180 (by decide +kernel)
theorem dX12_readBinder_139 : decode cX12_readBinder 139 = .ok (.iload_n 2, 1) := dk_28 (by decide +kernel)
theorem dX12_readBinder_140 : decode cX12_readBinder 140 = .ok (.iastore, 1) := dk_79 (by decide +kernel)
theorem dX12_readBinder_141 : decode cX12_readBinder 141 = .ok (.aload_n 0, 1) := dk_42 (by decide +kernel)
theorem dX12_readBinder_142 : decode cX12_readBinder 142 = .ok (.getfield 65, 3) := dk_180 (by decide +kernel)
theorem dX12_readBinder_145 : decode cX12_readBinder 145 = .ok (.aload_n 0, 1) := dk_42 (by decide +kernel)
theorem dX12_readBinder_146 : decode cX12_readBinder 146 = .ok (.getfield 540, 3) := dk_180 (by decide +kernel)
theorem dX12_readBinder_149 : decode cX12_readBinder 149 = .ok (.iload_n 3, 1) := dk_29 (by decide +kernel)
theorem dX12_readBinder_150 : decode cX12_readBinder 150 = .ok (.iastore, 1) := dk_79 (by decide +kernel)
theorem dX12_readBinder_151 : decode cX12_readBinder 151 = .ok (.aload_n 0, 1) := dk_42 (by decide +kernel)
theorem dX12_readBinder_152 : decode cX12_readBinder 152 = .ok (.dup, 1) := dk_89 (by decide +kernel)
theorem dX12_readBinder_153 : decode cX12_readBinder 153 = .ok (.getfield 540, 3) := dk_180 (by decide +kernel)
theorem dX12_readBinder_156 : decode cX12_readBinder 156 = .ok (.iconst 1, 1) := dk_4 (by decide +kernel)
theorem dX12_readBinder_157 : decode cX12_readBinder 157 = .ok (.iadd, 1) := dk_96 (by decide +kernel)
theorem dX12_readBinder_158 : decode cX12_readBinder 158 = .ok (.putfield 540, 3) := dk_181 (by decide +kernel)
theorem dX12_readBinder_161 : decode cX12_readBinder 161 = .ok (.iload 4, 2) := dk_21 (by decide +kernel)
theorem dX12_readBinder_163 : decode cX12_readBinder 163 = .ok (.ireturn, 1) := dk_172 (by decide +kernel)
def wsRX12_readBinder : List Cond := .code yX12_readBinder cX12_readBinder 5 (some .int) :: ([.fieldLink RX12 494 "OptimaWorksModel" "word" "I", .fieldLink RX12 68 "OptimaWorksModel" "ownFrom" "I", .fieldLink RX12 552 "OptimaWorksModel" "ownLong" "I", .fieldLink RX12 488 "OptimaWorksModel" "from" "I", .fieldLink RX12 485 "OptimaWorksModel" "at0" "I", .fieldLink RX12 515 "OptimaWorksModel" "stop" "I", .fieldLink RX12 62 "OptimaWorksModel" "binderFrom" "[I", .fieldLink RX12 540 "OptimaWorksModel" "binders" "I", .fieldLink RX12 65 "OptimaWorksModel" "binderLong" "[I"] ++ wsX120 ++ (wsV RX12 536 RX12 yX12_sameText wsRX12_sameText) ++ (wsV RX12 555 RX12 yX12_declared wsRX12_declared) ++ (wsV RX12 518 RX12 yX12_faultAt wsRX12_faultAt) ++ (wsV RX12 558 RX12 yX12_binder wsRX12_binder) ++ (wsV RX12 524 RX12 yX12_next wsRX12_next) ++ (wsV RX12 561 RX12 yX12_needKey wsRX12_needKey) ++ (wsV RX12 564 RX12 yX12_readSet wsRX12_readSet) ++ (wsV RX12 527 RX12 yX12_wrong wsRX12_wrong))
theorem iwsRX12_readBinder_in12 : ∀ w ∈ wsX120, w ∈ wsRX12_readBinder := fun _ h => List.mem_cons_of_mem _ (List.mem_append_left _ (List.mem_append_left _ (List.mem_append_left _ (List.mem_append_left _ (List.mem_append_left _ (List.mem_append_left _ (List.mem_append_left _ (List.mem_append_left _ (List.mem_append_right _ h)))))))))
theorem gwsRX12_readBinder_0 : GoodIn wsRX12_readBinder (wsV RX12 536 RX12 yX12_sameText wsRX12_sameText) := goodIn_sub (fun _ h => List.mem_cons_of_mem _ (List.mem_append_left _ (List.mem_append_left _ (List.mem_append_left _ (List.mem_append_left _ (List.mem_append_left _ (List.mem_append_left _ (List.mem_append_left _ (List.mem_append_right _ h))))))))) (gdV (by decide +kernel) gdwsRX12_sameText)
theorem gwsRX12_readBinder_1 : GoodIn wsRX12_readBinder (wsV RX12 555 RX12 yX12_declared wsRX12_declared) := goodIn_sub (fun _ h => List.mem_cons_of_mem _ (List.mem_append_left _ (List.mem_append_left _ (List.mem_append_left _ (List.mem_append_left _ (List.mem_append_left _ (List.mem_append_left _ (List.mem_append_right _ h)))))))) (gdV (by decide +kernel) gdwsRX12_declared)
theorem gwsRX12_readBinder_2 : GoodIn wsRX12_readBinder (wsV RX12 518 RX12 yX12_faultAt wsRX12_faultAt) := goodIn_sub (fun _ h => List.mem_cons_of_mem _ (List.mem_append_left _ (List.mem_append_left _ (List.mem_append_left _ (List.mem_append_left _ (List.mem_append_left _ (List.mem_append_right _ h))))))) (gdV (by decide +kernel) gdwsRX12_faultAt)
theorem gwsRX12_readBinder_3 : GoodIn wsRX12_readBinder (wsV RX12 558 RX12 yX12_binder wsRX12_binder) := goodIn_sub (fun _ h => List.mem_cons_of_mem _ (List.mem_append_left _ (List.mem_append_left _ (List.mem_append_left _ (List.mem_append_left _ (List.mem_append_right _ h)))))) (gdV (by decide +kernel) gdwsRX12_binder)
theorem gwsRX12_readBinder_4 : GoodIn wsRX12_readBinder (wsV RX12 524 RX12 yX12_next wsRX12_next) := goodIn_sub (fun _ h => List.mem_cons_of_mem _ (List.mem_append_left _ (List.mem_append_left _ (List.mem_append_left _ (List.mem_append_right _ h))))) (gdV (by decide +kernel) gdwsRX12_next)
theorem gwsRX12_readBinder_5 : GoodIn wsRX12_readBinder (wsV RX12 561 RX12 yX12_needKey wsRX12_needKey) := goodIn_sub (fun _ h => List.mem_cons_of_mem _ (List.mem_append_left _ (List.mem_append_left _ (List.mem_append_right _ h)))) (gdV (by decide +kernel) gdwsRX12_needKey)
theorem gwsRX12_readBinder_6 : GoodIn wsRX12_readBinder (wsV RX12 564 RX12 yX12_readSet wsRX12_readSet) := goodIn_sub (fun _ h => List.mem_cons_of_mem _ (List.mem_append_left _ (List.mem_append_right _ h))) (gdV (by decide +kernel) gdwsRX12_readSet)
theorem gwsRX12_readBinder_7 : GoodIn wsRX12_readBinder (wsV RX12 527 RX12 yX12_wrong wsRX12_wrong) := goodIn_sub (fun _ h => List.mem_cons_of_mem _ (List.mem_append_right _ h)) (gdV (by decide +kernel) gdwsRX12_wrong)
theorem gdwsRX12_readBinder : wsRX12_readBinder.all goodWord = true := gdC rfl (gdA (gdA (gdA (gdA (gdA (gdA (gdA (gdA (gdA (by decide +kernel : ([.fieldLink RX12 494 "OptimaWorksModel" "word" "I", .fieldLink RX12 68 "OptimaWorksModel" "ownFrom" "I", .fieldLink RX12 552 "OptimaWorksModel" "ownLong" "I", .fieldLink RX12 488 "OptimaWorksModel" "from" "I", .fieldLink RX12 485 "OptimaWorksModel" "at0" "I", .fieldLink RX12 515 "OptimaWorksModel" "stop" "I", .fieldLink RX12 62 "OptimaWorksModel" "binderFrom" "[I", .fieldLink RX12 540 "OptimaWorksModel" "binders" "I", .fieldLink RX12 65 "OptimaWorksModel" "binderLong" "[I"] : List Cond).all goodWord = true) gdwsX120) (gdV (by decide +kernel) gdwsRX12_sameText)) (gdV (by decide +kernel) gdwsRX12_declared)) (gdV (by decide +kernel) gdwsRX12_faultAt)) (gdV (by decide +kernel) gdwsRX12_binder)) (gdV (by decide +kernel) gdwsRX12_next)) (gdV (by decide +kernel) gdwsRX12_needKey)) (gdV (by decide +kernel) gdwsRX12_readSet)) (gdV (by decide +kernel) gdwsRX12_wrong))
theorem hm_r_X12_readBinder_0 : (.fieldLink RX12 68 "OptimaWorksModel" "ownFrom" "I" : Cond) ∈ wsRX12_readBinder := by decide +kernel
theorem hm_r_X12_readBinder_1 : (.fieldLink RX12 488 "OptimaWorksModel" "from" "I" : Cond) ∈ wsRX12_readBinder := by decide +kernel
theorem hm_r_X12_readBinder_2 : (.fieldLink RX12 485 "OptimaWorksModel" "at0" "I" : Cond) ∈ wsRX12_readBinder := by decide +kernel
theorem hm_r_X12_readBinder_3 : (.fieldLink RX12 540 "OptimaWorksModel" "binders" "I" : Cond) ∈ wsRX12_readBinder := by decide +kernel
set_option maxHeartbeats 4000000 in
set_option maxRecDepth 100000 in
/-- readBinder() -/
theorem r_X12_readBinder (l : Launch) (dC : Nat → ClassId) (dI : Nat → Nat → Nat) (a : Nat → Nat) (k : Nat → ClassId) (h0 : Nat) (vi : Nat → Int32) (vj : Nat → Int64) (vF : Nat → Nat → Int32) (vG : Nat → Nat → Int64) (tp : Nat) (an : Nat) (fn : Nat) (nm : Nat) (se : Nat) (pa : Nat) (va : Nat) (bd : Nat) (hTp : vi 16 = nI tp) (htp : tp ≤ 4000) (ha0 : vi 17 = nI an) (hfr : vi 19 = nI fn) (hLx : LxO tp fn an (vi 18) (vi 20)) (hst0 : 0 ≤ (vi 21).toInt) (hnm : vi 25 = nI nm) (hnm40 : nm ≤ 40) (hno : NmO (vF 11) (vF 12) nm) (hNk : NkO (vF 10) (vF 13) nm se pa va) (hbd : vi 30 = nI bd) (hbd58 : bd ≤ 57) (hbo : NmO (vF 14) (vF 15) 60) (hOw : OwO (vi 33) (vi 34)) (sz : Nat) : Met l yX12_readBinder wsRX12_readBinder ({ frames := 9, cells := 0, slots := 0, locals := 194 }) (va_Pc [.ref h0] (fun U => U.heap.size = sz ∧ va_P (dC, dI) vwCl (WR a k h0 vi vj vF vG) U.heap ∧ va_K (dC, dI) vwCl (tX12 k) U ∧ va_D (fun _ => True) (WR a k h0 vi vj vF vG) ∧ StrA (va_A (WR a k h0 vi vj vF vG) sz) U U.heap)) (va_Qi (fun (r : Int32) (u : (Nat) × (Nat) × (Int32) × (Int32) × (Int32) × (Int32) × (Nat) × (Nat → Int32) × (Nat → Int32)) => (LxO tp (u.2.1) (u.1) (u.2.2.2.1) (u.2.2.1)) ∧ (fn ≤ (u.2.1)) ∧ (0 ≤ ((u.2.2.2.2.1)).toInt) ∧ ((u.2.2.2.2.2.2.1) ≤ bd + 1 ∧ bd ≤ (u.2.2.2.2.2.2.1)) ∧ (NmO (u.2.2.2.2.2.2.2.1) (u.2.2.2.2.2.2.2.2) 60) ∧ ((0 < ((u.2.2.2.2.1)).toInt) ∨ ((u.2.2.2.2.1) = 0 ∧ fn + 2 < (u.2.1) ∧ (u.2.2.2.2.2.2.1) = bd + 1 ∧ ∃ o, o < se ∧ (r) = nI o))) (fun (u : (Nat) × (Nat) × (Int32) × (Int32) × (Int32) × (Int32) × (Nat) × (Nat → Int32) × (Nat → Int32)) t => va_P (dC, dI) vwCl (WR a k h0 (fT (fT (fT (fT (fT (fT (fT vi 21 (u.2.2.2.2.1)) 22 (u.2.2.2.2.2.1)) 17 (nI (u.1))) 19 (nI (u.2.1))) 20 (u.2.2.1)) 18 (u.2.2.2.1)) 30 (nI (u.2.2.2.2.2.2.1))) vj (fT (fT vF 14 (u.2.2.2.2.2.2.2.1)) 15 (u.2.2.2.2.2.2.2.2)) vG) t.heap ∧ va_D (va_A (WR a k h0 vi vj vF vG) sz) (WR a k h0 (fT (fT (fT (fT (fT (fT (fT vi 21 (u.2.2.2.2.1)) 22 (u.2.2.2.2.2.1)) 17 (nI (u.1))) 19 (nI (u.2.1))) 20 (u.2.2.1)) 18 (u.2.2.2.1)) 30 (nI (u.2.2.2.2.2.2.1))) vj (fT (fT vF 14 (u.2.2.2.2.2.2.2.1)) 15 (u.2.2.2.2.2.2.2.2)) vG)) (va_A (WR a k h0 vi vj vF vG) sz)) 0 0 (va_A (WR a k h0 vi vj vF vG) sz) := by
  refine Met.ofW (cc := cX12_readBinder) (maxL := 5) (ret := (some .int)) (by decide) rfl ?_
  intro p e s m args below meth c s₁ B hml hv
  obtain ⟨rfl, hsz, hP, hK, hD0, hE⟩ := hv
  have hx := B.exec
  have hb := B.bytes
  have hr := B.returns
  have hts := atoms_spec (ws := wsRX12_readBinder) B.pre
  have hown : s.vm.findClass RX12 = some m.cls := findClass_of_methodNamed B.named
  have hlocks := B.notSynchronized
  subst hsz
  have hD := hD0.self (sz := s.heap.size)
  generalize hAe : va_A (WR a k h0 vi vj vF vG) s.heap.size = A at hD hE ⊢
  have hA : ∀ q : Nat, s.heap.size ≤ q → A q := fun q h => by rw [← hAe]; exact Or.inr h
  have hS : va_S A s.heap s.heap [] := va_S.rf
  have hl := lv_entry ([.ref h0]) (n := 5) (Nat.le_of_ble_eq_true rfl)
  rw [lg_entry_eq]
  generalize (lg_sl ([.ref h0]) ++ List.replicate (5 - (lg_sl ([.ref h0])).length) Slot.unset).toArray = ls at hl ⊢
  have hl : lv_has ls 5 [(0, .ref h0)] := hl
  have hfa := hLx.1
  have han := hLx.2.1
  have han4 : an ≤ 4000 := by omega
  refine lv_aload_n hx hb dX12_readBinder_0 rfl (lv_at hl 0 rfl) ?_
  refine va_get (D := (dC, dI)) (ci := 12) (v := .int (vi 18)) (C := RX12) (T := TX12) (N := 163) (fs := fM (vS a vi vj)) hx hb hts iwsRX12_readBinder_in12 hown hK hP 0 rfl rfl 18 (by decide) (hts (.fieldLink RX12 494 "OptimaWorksModel" "word" "I") (by decide +kernel)) (fun _ h9 => h9) rfl dX12_readBinder_1 ?_
  refine lv_iconst (v := 1) hx hb dX12_readBinder_4 (by decide) ?_
  refine lv_icmp_eq (tgt := 14) hx hb dX12_readBinder_5 (by decide) (fun c_5 => ?_) (fun c_5 => ?_)
  · have t_5 : ((vi 18)).toInt = 1 := toI_eq c_5 rfl (by decide)
    refine lv_aload_n hx hb dX12_readBinder_14 rfl (lv_at hl 0 rfl) ?_
    refine va_get (D := (dC, dI)) (ci := 12) (v := .int (vi 33)) (C := RX12) (T := TX12) (N := 163) (fs := fM (vS a vi vj)) hx hb hts iwsRX12_readBinder_in12 hown hK hP 0 rfl rfl 33 (by decide) (hts _ hm_r_X12_readBinder_0) (fun _ h9 => h9) rfl dX12_readBinder_15 ?_
    refine lv_iconst (v := (-1)) hx hb dX12_readBinder_18 (by decide) ?_
    refine W.cut (pc := 55) (fun H locs ls stk => ∃ (j1_s0 : Int32),  stk = [.int j1_s0] ∧ va_P (dC, dI) vwCl (WR a k h0 vi vj vF vG) H ∧ va_D A (WR a k h0 vi vj vF vG) ∧ va_S A s.heap H locs ∧ lv_has ls 5 [(0, .ref h0)]) (fun join1 => ?_) ?_
    · refine lv_icmp_eq (tgt := 54) hx hb dX12_readBinder_19 (by decide) (fun c_19 => ?_) (fun c_19 => ?_)
      · have t_19 : ((vi 33)).toInt = -1 := toI_eq c_19 rfl (by decide)
        refine lv_iconst (v := 0) hx hb dX12_readBinder_54 (by decide) ?_
        have hl : lv_has _ _ ([(0, .ref h0)]) := lv_sub hl [0] rfl
        exact join1 _ _ _ _ ⟨0, rfl, hP, hD, hS, hl⟩
      · have t_19 : ¬ ((vi 33)).toInt = -1 := toI_neq c_19 rfl (by decide)
        obtain ⟨xO, zO, exO, ezO, hxz⟩ := hOw.resolve_left c_19
        refine lv_aload_n hx hb dX12_readBinder_22 rfl (lv_at hl 0 rfl) ?_
        refine lv_aload_n hx hb dX12_readBinder_23 rfl (lv_at hl 0 rfl) ?_
        refine va_get (D := (dC, dI)) (ci := 12) (v := .int (vi 33)) (C := RX12) (T := TX12) (N := 163) (fs := fM (vS a vi vj)) hx hb hts iwsRX12_readBinder_in12 hown hK hP 0 rfl rfl 33 (by decide) (hts _ hm_r_X12_readBinder_0) (fun _ h9 => h9) rfl dX12_readBinder_24 ?_
        refine lv_topi (fun y1 hy1 => ?_)
        obtain rfl : (nI xO) = y1 := (hy1.trans (exO)).symm
        refine lv_aload_n hx hb dX12_readBinder_27 rfl (lv_at hl 0 rfl) ?_
        refine va_get (D := (dC, dI)) (ci := 12) (v := .int (vi 34)) (C := RX12) (T := TX12) (N := 163) (fs := fM (vS a vi vj)) hx hb hts iwsRX12_readBinder_in12 hown hK hP 0 rfl rfl 34 (by decide) (hts (.fieldLink RX12 552 "OptimaWorksModel" "ownLong" "I") (by decide +kernel)) (fun _ h9 => h9) rfl dX12_readBinder_28 ?_
        refine lv_topi (fun y2 hy2 => ?_)
        obtain rfl : (nI zO) = y2 := (hy2.trans (ezO)).symm
        refine lv_aload_n hx hb dX12_readBinder_31 rfl (lv_at hl 0 rfl) ?_
        refine va_get (D := (dC, dI)) (ci := 12) (v := .int (vi 19)) (C := RX12) (T := TX12) (N := 163) (fs := fM (vS a vi vj)) hx hb hts iwsRX12_readBinder_in12 hown hK hP 0 rfl rfl 19 (by decide) (hts _ hm_r_X12_readBinder_1) (fun _ h9 => h9) rfl dX12_readBinder_32 ?_
        refine lv_topi (fun y3 hy3 => ?_)
        obtain rfl : (nI fn) = y3 := (hy3.trans (hfr)).symm
        refine lv_aload_n hx hb dX12_readBinder_35 rfl (lv_at hl 0 rfl) ?_
        refine va_get (D := (dC, dI)) (ci := 12) (v := .int (vi 17)) (C := RX12) (T := TX12) (N := 163) (fs := fM (vS a vi vj)) hx hb hts iwsRX12_readBinder_in12 hown hK hP 0 rfl rfl 17 (by decide) (hts _ hm_r_X12_readBinder_2) (fun _ h9 => h9) rfl dX12_readBinder_36 ?_
        refine lv_topi (fun y4 hy4 => ?_)
        obtain rfl : (nI an) = y4 := (hy4.trans (ha0)).symm
        refine lv_aload_n hx hb dX12_readBinder_39 rfl (lv_at hl 0 rfl) ?_
        refine va_get (D := (dC, dI)) (ci := 12) (v := .int (vi 19)) (C := RX12) (T := TX12) (N := 163) (fs := fM (vS a vi vj)) hx hb hts iwsRX12_readBinder_in12 hown hK hP 0 rfl rfl 19 (by decide) (hts _ hm_r_X12_readBinder_1) (fun _ h9 => h9) rfl dX12_readBinder_40 ?_
        refine lv_topi (fun y5 hy5 => ?_)
        obtain rfl : (nI fn) = y5 := (hy5.trans (hfr)).symm
        refine lv_isub hx hb dX12_readBinder_43 ?_
        refine lv_topi (fun y6 hy6 => ?_)
        obtain rfl : (nI (an - fn)) = y6 := (hy6.trans (pk_sub (a := an) (b := fn) (by omega))).symm
        have hFc := allFree hD hS hA
        refine va_calli (va_runV (As := [.int (nI xO), .int (nI zO), .int (nI fn), .int (nI (an - fn))]) (rest := []) ⟨hx, hb, hml, hown, hts⟩ (r_X12_sameText l dC dI a k h0 vi vj vF vG xO zO fn (an - fn) (by first | with_reducible assumption | decide | omega | rfl | assumption) (by first | with_reducible assumption | decide | omega | rfl | assumption) s.heap.size) (cwV 4 hts gwsRX12_readBinder_0 rfl rfl rfl hd_yX12_sameText_RX12 (by decide +kernel)) (fz_pre (va_recv hK hP (ci := 12) (q0 := 0) rfl rfl) hP hK hD) rfl rfl hl.1 rfl (lv_room (Nat.le_of_ble_eq_true rfl)) dX12_readBinder_44 (by decide +kernel)) hS (fun q _ h => hFc q h) hFc (fun r44 u t9_ H locs ht hvm hw9 hB9 hz1 hk1 hS => ?_)
        have hP : va_P (dC, dI) vwCl (WR a k h0 vi vj vF vG) H := fz_P ht hB9.1
        have hD := fz_sd hP (hB9.2.weaken (fun _ q _ h => hFc q.1 h)) rfl
        have f44_0 := hw9
        try dsimp only at f44_0
        refine lv_if_eq (tgt := 54) hx hb dX12_readBinder_47 (by decide) (fun c_47 => ?_) (fun c_47 => ?_)
        · have t_47 : (r44).toInt = 0 := toI_eq c_47 rfl (by decide)
          refine lv_iconst (v := 0) hx hb dX12_readBinder_54 (by decide) ?_
          have hl : lv_has _ _ ([(0, .ref h0)]) := lv_sub hl [0] rfl
          exact join1 _ _ _ _ ⟨0, rfl, hP, hD, hS, hl⟩
        · have t_47 : ¬ (r44).toInt = 0 := toI_neq c_47 rfl (by decide)
          refine lv_iconst (v := 1) hx hb dX12_readBinder_50 (by decide) ?_
          refine lv_goto (tgt := 55) hx hb dX12_readBinder_51 (by decide) ?_
          have hl : lv_has _ _ ([(0, .ref h0)]) := lv_sub hl [0] rfl
          exact join1 _ _ _ _ ⟨1, rfl, hP, hD, hS, hl⟩
    · rintro H locs ls stk ⟨j1_s0, rfl, hP, hD, hS, hl⟩
      refine lv_istore_n hx hb dX12_readBinder_55 rfl hl (by decide) rfl (fun ls (hl : lv_has ls _ ([(1, .int j1_s0), (0, .ref h0)])) => ?_)
      refine W.cut (pc := 86) (fun H locs ls stk => ∃ (j2_i21 : Int32) (j2_i22 : Int32), (0 ≤ (j2_i21).toInt) ∧  stk = [] ∧ va_P (dC, dI) vwCl (WR a k h0 (fT (fT vi 21 j2_i21) 22 j2_i22) vj vF vG) H ∧ va_D A (WR a k h0 (fT (fT vi 21 j2_i21) 22 j2_i22) vj vF vG) ∧ va_S A s.heap H locs ∧ lv_has ls 5 [(1, .int j1_s0), (0, .ref h0)]) (fun join2 => ?_) ?_
      · refine lv_aload_n hx hb dX12_readBinder_56 rfl (lv_at hl 1 rfl) ?_
        have hFc := allFree hD hS hA
        refine va_calli (va_runV (As := []) (rest := []) ⟨hx, hb, hml, hown, hts⟩ (r_X12_declared l dC dI a k h0 vi vj vF vG an fn nm ha0 hfr (by first | with_reducible assumption | decide | omega | rfl | assumption) (by first | with_reducible assumption | decide | omega | rfl | assumption) hnm (by first | with_reducible assumption | decide | omega | rfl | assumption) (by first | with_reducible assumption | decide | omega | rfl | assumption) H.size) (cwV 0 hts gwsRX12_readBinder_1 rfl rfl rfl hd_yX12_declared_RX12 (by decide +kernel)) (fz_pre (va_recv hK hP (ci := 12) (q0 := 0) rfl rfl) hP hK hD) rfl rfl hl.1 rfl (lv_room (Nat.le_of_ble_eq_true rfl)) dX12_readBinder_57 (by decide +kernel)) hS (fun q _ h => hFc q h) hFc (fun r57 kx57 t9_ H locs ht hvm hw9 hB9 hz1 hk1 hS => ?_)
        have hP : va_P (dC, dI) vwCl (WR a k h0 vi vj vF vG) H := fz_P ht hB9.1
        have hD := fz_sd hP (hB9.2.weaken (fun _ q _ h => hFc q.1 h)) rfl
        rcases hw9 with rfl | ⟨rfl, f57_0⟩
        · refine lv_iconst (v := (-1)) hx hb dX12_readBinder_60 (by decide) ?_
          refine lv_icmp_ne (tgt := 76) hx hb dX12_readBinder_61 (by decide) (fun c9 => absurd c9 (by decide)) (fun _ => ?_)
          refine lv_iload_n hx hb dX12_readBinder_64 rfl (lv_at hl 0 rfl) ?_
          refine lv_if_ne (tgt := 76) hx hb dX12_readBinder_65 (by decide) (fun c_65 => ?_) (fun c_65 => ?_)
          · have t_65 : (j1_s0).toInt ≠ 0 := toI_ne c_65 rfl (by decide)
            refine lv_aload_n hx hb dX12_readBinder_76 rfl (lv_at hl 1 rfl) ?_
            refine lv_bipush (v := 10) hx hb dX12_readBinder_77 (by decide) ?_
            refine lv_aload_n hx hb dX12_readBinder_79 rfl (lv_at hl 1 rfl) ?_
            refine va_get (D := (dC, dI)) (ci := 12) (v := .int (vi 19)) (C := RX12) (T := TX12) (N := 163) (fs := fM (vS a vi vj)) hx hb hts iwsRX12_readBinder_in12 hown hK hP 0 rfl rfl 19 (by decide) (hts _ hm_r_X12_readBinder_1) (fun _ h9 => h9) rfl dX12_readBinder_80 ?_
            refine lv_topi (fun y7 hy7 => ?_)
            obtain rfl : (nI fn) = y7 := (hy7.trans (hfr)).symm
            have hFc := allFree hD hS hA
            refine va_callv (va_runV (As := [.int 10, .int (nI fn)]) (rest := []) ⟨hx, hb, hml, hown, hts⟩ (r_X12_faultAt l dC dI a k h0 vi vj vF vG 10 (nI fn) (by first | with_reducible assumption | decide | omega | rfl | assumption) H.size) (cwV 2 hts gwsRX12_readBinder_2 rfl rfl rfl hd_yX12_faultAt_RX12 (by decide +kernel)) (fz_pre (va_recv hK hP (ci := 12) (q0 := 0) rfl rfl) hP hK hD) rfl rfl hl.1 rfl (lv_room (Nat.le_of_ble_eq_true rfl)) dX12_readBinder_83 (by decide +kernel)) hS (fun q _ h => hFc q h) hFc (fun u t9_ H locs ht hvm hw9 hB9 hz1 hk1 hS => ?_)
            revert u hw9 hB9
            refine fz_p2 ?_
            intro s283 p283 hw9 hB9
            try dsimp only at hw9 hB9
            have hP : va_P (dC, dI) vwCl (WR a k h0 (fT (fT vi 21 s283) 22 p283) vj vF vG) H := fz_P ht hB9.1
            have hD := fz_sd hP (hB9.2.weaken (fun _ q _ h => hFc q.1 h)) rfl
            revert hw9
            refine fz_a2 ?_
            intro f83_0 f83_1
            have f83_0 : (0 < (vi 21).toInt ∧ s283 = (vi 21) ∧ p283 = (vi 22)) ∨ (¬ 0 < (vi 21).toInt ∧ s283 = 10 ∧ p283 = (nI fn)) := f83_0
            have hl : lv_has _ _ ([(1, .int j1_s0), (0, .ref h0)]) := lv_sub hl [0, 1] rfl
            exact join2 _ _ _ _ ⟨s283, p283, by first | assumption | omega, rfl, hP, hD, hS, hl⟩
          · have t_65 : (j1_s0).toInt = 0 := toI_nne c_65 rfl (by decide)
            refine lv_aload_n hx hb dX12_readBinder_68 rfl (lv_at hl 1 rfl) ?_
            have hFc := allFree hD hS hA
            refine va_calli (va_runV (As := []) (rest := []) ⟨hx, hb, hml, hown, hts⟩ (r_X12_binder l dC dI a k h0 vi vj vF vG an fn bd ha0 hfr (by first | with_reducible assumption | decide | omega | rfl | assumption) (by first | with_reducible assumption | decide | omega | rfl | assumption) hbd (by first | with_reducible assumption | decide | omega | rfl | assumption) ((fun k9 h9 => hbo k9 (by omega))) H.size) (cwV 0 hts gwsRX12_readBinder_3 rfl rfl rfl hd_yX12_binder_RX12 (by decide +kernel)) (fz_pre (va_recv hK hP (ci := 12) (q0 := 0) rfl rfl) hP hK hD) rfl rfl hl.1 rfl (lv_room (Nat.le_of_ble_eq_true rfl)) dX12_readBinder_69 (by decide +kernel)) hS (fun q _ h => hFc q h) hFc (fun r69 kx69 t9_ H locs ht hvm hw9 hB9 hz1 hk1 hS => ?_)
            have hP : va_P (dC, dI) vwCl (WR a k h0 vi vj vF vG) H := fz_P ht hB9.1
            have hD := fz_sd hP (hB9.2.weaken (fun _ q _ h => hFc q.1 h)) rfl
            rcases hw9 with rfl | ⟨rfl, f69_0⟩
            · refine lv_iconst (v := (-1)) hx hb dX12_readBinder_72 (by decide) ?_
              refine lv_icmp_eq (tgt := 86) hx hb dX12_readBinder_73 (by decide) (fun _ => ?_) (fun c9 => absurd (by decide) c9)
              have e9 : fT (fT vi 21 (vi 21)) 22 (vi 22) = vi := by funext q9; by_cases h9_21 : q9 = 21; (subst h9_21; exact ((fT_ne _ _ (Nat.ne_of_beq_eq_false rfl)).trans (fT_eq _ _ _)).trans (Eq.trans (by first | with_reducible rfl | with_reducible assumption | (symm; with_reducible assumption) | rfl | assumption | (symm; assumption) | (subst_vars; rfl)) (Eq.refl _).symm)); by_cases h9_22 : q9 = 22; (subst h9_22; exact (fT_eq _ _ _).trans (Eq.trans (by first | with_reducible rfl | with_reducible assumption | (symm; with_reducible assumption) | rfl | assumption | (symm; assumption) | (subst_vars; rfl)) (Eq.refl _).symm)); exact ((fT_ne _ _ h9_22).trans (fT_ne _ _ h9_21)).trans (Eq.refl _).symm
              have hP := wr_Pi e9 hP
              have hD := wr_Di e9 hD
              clear e9
              have hl : lv_has _ _ ([(1, .int j1_s0), (0, .ref h0)]) := lv_sub hl [0, 1] rfl
              exact join2 _ _ _ _ ⟨(vi 21), (vi 22), by first | assumption | omega, rfl, hP, hD, hS, hl⟩
            · refine lv_iconst (v := (-1)) hx hb dX12_readBinder_72 (by decide) ?_
              refine lv_icmp_eq (tgt := 86) hx hb dX12_readBinder_73 (by decide) (fun c_73 => ?_) (fun c_73 => ?_)
              · have t_73 : ((kx69 : Nat) : Int) = -1 := toI_eq c_73 (nI_toInt (by omega)) (by decide)
                have e9 : fT (fT vi 21 (vi 21)) 22 (vi 22) = vi := by funext q9; by_cases h9_21 : q9 = 21; (subst h9_21; exact ((fT_ne _ _ (Nat.ne_of_beq_eq_false rfl)).trans (fT_eq _ _ _)).trans (Eq.trans (by first | with_reducible rfl | with_reducible assumption | (symm; with_reducible assumption) | rfl | assumption | (symm; assumption) | (subst_vars; rfl)) (Eq.refl _).symm)); by_cases h9_22 : q9 = 22; (subst h9_22; exact (fT_eq _ _ _).trans (Eq.trans (by first | with_reducible rfl | with_reducible assumption | (symm; with_reducible assumption) | rfl | assumption | (symm; assumption) | (subst_vars; rfl)) (Eq.refl _).symm)); exact ((fT_ne _ _ h9_22).trans (fT_ne _ _ h9_21)).trans (Eq.refl _).symm
                have hP := wr_Pi e9 hP
                have hD := wr_Di e9 hD
                clear e9
                have hl : lv_has _ _ ([(1, .int j1_s0), (0, .ref h0)]) := lv_sub hl [0, 1] rfl
                exact join2 _ _ _ _ ⟨(vi 21), (vi 22), by first | assumption | omega, rfl, hP, hD, hS, hl⟩
              · have t_73 : ¬ ((kx69 : Nat) : Int) = -1 := toI_neq c_73 (nI_toInt (by omega)) (by decide)
                refine lv_aload_n hx hb dX12_readBinder_76 rfl (lv_at hl 1 rfl) ?_
                refine lv_bipush (v := 10) hx hb dX12_readBinder_77 (by decide) ?_
                refine lv_aload_n hx hb dX12_readBinder_79 rfl (lv_at hl 1 rfl) ?_
                refine va_get (D := (dC, dI)) (ci := 12) (v := .int (vi 19)) (C := RX12) (T := TX12) (N := 163) (fs := fM (vS a vi vj)) hx hb hts iwsRX12_readBinder_in12 hown hK hP 0 rfl rfl 19 (by decide) (hts _ hm_r_X12_readBinder_1) (fun _ h9 => h9) rfl dX12_readBinder_80 ?_
                refine lv_topi (fun y8 hy8 => ?_)
                obtain rfl : (nI fn) = y8 := (hy8.trans (hfr)).symm
                have hFc := allFree hD hS hA
                refine va_callv (va_runV (As := [.int 10, .int (nI fn)]) (rest := []) ⟨hx, hb, hml, hown, hts⟩ (r_X12_faultAt l dC dI a k h0 vi vj vF vG 10 (nI fn) (by first | with_reducible assumption | decide | omega | rfl | assumption) H.size) (cwV 2 hts gwsRX12_readBinder_2 rfl rfl rfl hd_yX12_faultAt_RX12 (by decide +kernel)) (fz_pre (va_recv hK hP (ci := 12) (q0 := 0) rfl rfl) hP hK hD) rfl rfl hl.1 rfl (lv_room (Nat.le_of_ble_eq_true rfl)) dX12_readBinder_83 (by decide +kernel)) hS (fun q _ h => hFc q h) hFc (fun u t9_ H locs ht hvm hw9 hB9 hz1 hk1 hS => ?_)
                revert u hw9 hB9
                refine fz_p2 ?_
                intro s283_1 p283_1 hw9 hB9
                try dsimp only at hw9 hB9
                have hP : va_P (dC, dI) vwCl (WR a k h0 (fT (fT vi 21 s283_1) 22 p283_1) vj vF vG) H := fz_P ht hB9.1
                have hD := fz_sd hP (hB9.2.weaken (fun _ q _ h => hFc q.1 h)) rfl
                revert hw9
                refine fz_a2 ?_
                intro f83_1_0 f83_1_1
                have f83_1_0 : (0 < (vi 21).toInt ∧ s283_1 = (vi 21) ∧ p283_1 = (vi 22)) ∨ (¬ 0 < (vi 21).toInt ∧ s283_1 = 10 ∧ p283_1 = (nI fn)) := f83_1_0
                have hl : lv_has _ _ ([(1, .int j1_s0), (0, .ref h0)]) := lv_sub hl [0, 1] rfl
                exact join2 _ _ _ _ ⟨s283_1, p283_1, by first | assumption | omega, rfl, hP, hD, hS, hl⟩
        · refine lv_iconst (v := (-1)) hx hb dX12_readBinder_60 (by decide) ?_
          refine lv_icmp_ne (tgt := 76) hx hb dX12_readBinder_61 (by decide) (fun c_61 => ?_) (fun c_61 => ?_)
          · have t_61 : ((kx57 : Nat) : Int) ≠ -1 := toI_ne c_61 (nI_toInt (by omega)) (by decide)
            refine lv_aload_n hx hb dX12_readBinder_76 rfl (lv_at hl 1 rfl) ?_
            refine lv_bipush (v := 10) hx hb dX12_readBinder_77 (by decide) ?_
            refine lv_aload_n hx hb dX12_readBinder_79 rfl (lv_at hl 1 rfl) ?_
            refine va_get (D := (dC, dI)) (ci := 12) (v := .int (vi 19)) (C := RX12) (T := TX12) (N := 163) (fs := fM (vS a vi vj)) hx hb hts iwsRX12_readBinder_in12 hown hK hP 0 rfl rfl 19 (by decide) (hts _ hm_r_X12_readBinder_1) (fun _ h9 => h9) rfl dX12_readBinder_80 ?_
            refine lv_topi (fun y9 hy9 => ?_)
            obtain rfl : (nI fn) = y9 := (hy9.trans (hfr)).symm
            have hFc := allFree hD hS hA
            refine va_callv (va_runV (As := [.int 10, .int (nI fn)]) (rest := []) ⟨hx, hb, hml, hown, hts⟩ (r_X12_faultAt l dC dI a k h0 vi vj vF vG 10 (nI fn) (by first | with_reducible assumption | decide | omega | rfl | assumption) H.size) (cwV 2 hts gwsRX12_readBinder_2 rfl rfl rfl hd_yX12_faultAt_RX12 (by decide +kernel)) (fz_pre (va_recv hK hP (ci := 12) (q0 := 0) rfl rfl) hP hK hD) rfl rfl hl.1 rfl (lv_room (Nat.le_of_ble_eq_true rfl)) dX12_readBinder_83 (by decide +kernel)) hS (fun q _ h => hFc q h) hFc (fun u t9_ H locs ht hvm hw9 hB9 hz1 hk1 hS => ?_)
            revert u hw9 hB9
            refine fz_p2 ?_
            intro s283_2 p283_2 hw9 hB9
            try dsimp only at hw9 hB9
            have hP : va_P (dC, dI) vwCl (WR a k h0 (fT (fT vi 21 s283_2) 22 p283_2) vj vF vG) H := fz_P ht hB9.1
            have hD := fz_sd hP (hB9.2.weaken (fun _ q _ h => hFc q.1 h)) rfl
            revert hw9
            refine fz_a2 ?_
            intro f83_2_0 f83_2_1
            have f83_2_0 : (0 < (vi 21).toInt ∧ s283_2 = (vi 21) ∧ p283_2 = (vi 22)) ∨ (¬ 0 < (vi 21).toInt ∧ s283_2 = 10 ∧ p283_2 = (nI fn)) := f83_2_0
            have hl : lv_has _ _ ([(1, .int j1_s0), (0, .ref h0)]) := lv_sub hl [0, 1] rfl
            exact join2 _ _ _ _ ⟨s283_2, p283_2, by first | assumption | omega, rfl, hP, hD, hS, hl⟩
          · have t_61 : ((kx57 : Nat) : Int) = -1 := toI_nne c_61 (nI_toInt (by omega)) (by decide)
            refine lv_iload_n hx hb dX12_readBinder_64 rfl (lv_at hl 0 rfl) ?_
            refine lv_if_ne (tgt := 76) hx hb dX12_readBinder_65 (by decide) (fun c_65 => ?_) (fun c_65 => ?_)
            · have t_65 : (j1_s0).toInt ≠ 0 := toI_ne c_65 rfl (by decide)
              refine lv_aload_n hx hb dX12_readBinder_76 rfl (lv_at hl 1 rfl) ?_
              refine lv_bipush (v := 10) hx hb dX12_readBinder_77 (by decide) ?_
              refine lv_aload_n hx hb dX12_readBinder_79 rfl (lv_at hl 1 rfl) ?_
              refine va_get (D := (dC, dI)) (ci := 12) (v := .int (vi 19)) (C := RX12) (T := TX12) (N := 163) (fs := fM (vS a vi vj)) hx hb hts iwsRX12_readBinder_in12 hown hK hP 0 rfl rfl 19 (by decide) (hts _ hm_r_X12_readBinder_1) (fun _ h9 => h9) rfl dX12_readBinder_80 ?_
              refine lv_topi (fun y10 hy10 => ?_)
              obtain rfl : (nI fn) = y10 := (hy10.trans (hfr)).symm
              have hFc := allFree hD hS hA
              refine va_callv (va_runV (As := [.int 10, .int (nI fn)]) (rest := []) ⟨hx, hb, hml, hown, hts⟩ (r_X12_faultAt l dC dI a k h0 vi vj vF vG 10 (nI fn) (by first | with_reducible assumption | decide | omega | rfl | assumption) H.size) (cwV 2 hts gwsRX12_readBinder_2 rfl rfl rfl hd_yX12_faultAt_RX12 (by decide +kernel)) (fz_pre (va_recv hK hP (ci := 12) (q0 := 0) rfl rfl) hP hK hD) rfl rfl hl.1 rfl (lv_room (Nat.le_of_ble_eq_true rfl)) dX12_readBinder_83 (by decide +kernel)) hS (fun q _ h => hFc q h) hFc (fun u t9_ H locs ht hvm hw9 hB9 hz1 hk1 hS => ?_)
              revert u hw9 hB9
              refine fz_p2 ?_
              intro s283_3 p283_3 hw9 hB9
              try dsimp only at hw9 hB9
              have hP : va_P (dC, dI) vwCl (WR a k h0 (fT (fT vi 21 s283_3) 22 p283_3) vj vF vG) H := fz_P ht hB9.1
              have hD := fz_sd hP (hB9.2.weaken (fun _ q _ h => hFc q.1 h)) rfl
              revert hw9
              refine fz_a2 ?_
              intro f83_3_0 f83_3_1
              have f83_3_0 : (0 < (vi 21).toInt ∧ s283_3 = (vi 21) ∧ p283_3 = (vi 22)) ∨ (¬ 0 < (vi 21).toInt ∧ s283_3 = 10 ∧ p283_3 = (nI fn)) := f83_3_0
              have hl : lv_has _ _ ([(1, .int j1_s0), (0, .ref h0)]) := lv_sub hl [0, 1] rfl
              exact join2 _ _ _ _ ⟨s283_3, p283_3, by first | assumption | omega, rfl, hP, hD, hS, hl⟩
            · have t_65 : (j1_s0).toInt = 0 := toI_nne c_65 rfl (by decide)
              refine lv_aload_n hx hb dX12_readBinder_68 rfl (lv_at hl 1 rfl) ?_
              have hFc := allFree hD hS hA
              refine va_calli (va_runV (As := []) (rest := []) ⟨hx, hb, hml, hown, hts⟩ (r_X12_binder l dC dI a k h0 vi vj vF vG an fn bd ha0 hfr (by first | with_reducible assumption | decide | omega | rfl | assumption) (by first | with_reducible assumption | decide | omega | rfl | assumption) hbd (by first | with_reducible assumption | decide | omega | rfl | assumption) ((fun k9 h9 => hbo k9 (by omega))) H.size) (cwV 0 hts gwsRX12_readBinder_3 rfl rfl rfl hd_yX12_binder_RX12 (by decide +kernel)) (fz_pre (va_recv hK hP (ci := 12) (q0 := 0) rfl rfl) hP hK hD) rfl rfl hl.1 rfl (lv_room (Nat.le_of_ble_eq_true rfl)) dX12_readBinder_69 (by decide +kernel)) hS (fun q _ h => hFc q h) hFc (fun r69_1 kx69_1 t9_ H locs ht hvm hw9 hB9 hz1 hk1 hS => ?_)
              have hP : va_P (dC, dI) vwCl (WR a k h0 vi vj vF vG) H := fz_P ht hB9.1
              have hD := fz_sd hP (hB9.2.weaken (fun _ q _ h => hFc q.1 h)) rfl
              rcases hw9 with rfl | ⟨rfl, f69_1_0⟩
              · refine lv_iconst (v := (-1)) hx hb dX12_readBinder_72 (by decide) ?_
                refine lv_icmp_eq (tgt := 86) hx hb dX12_readBinder_73 (by decide) (fun _ => ?_) (fun c9 => absurd (by decide) c9)
                have e9 : fT (fT vi 21 (vi 21)) 22 (vi 22) = vi := by funext q9; by_cases h9_21 : q9 = 21; (subst h9_21; exact ((fT_ne _ _ (Nat.ne_of_beq_eq_false rfl)).trans (fT_eq _ _ _)).trans (Eq.trans (by first | with_reducible rfl | with_reducible assumption | (symm; with_reducible assumption) | rfl | assumption | (symm; assumption) | (subst_vars; rfl)) (Eq.refl _).symm)); by_cases h9_22 : q9 = 22; (subst h9_22; exact (fT_eq _ _ _).trans (Eq.trans (by first | with_reducible rfl | with_reducible assumption | (symm; with_reducible assumption) | rfl | assumption | (symm; assumption) | (subst_vars; rfl)) (Eq.refl _).symm)); exact ((fT_ne _ _ h9_22).trans (fT_ne _ _ h9_21)).trans (Eq.refl _).symm
                have hP := wr_Pi e9 hP
                have hD := wr_Di e9 hD
                clear e9
                have hl : lv_has _ _ ([(1, .int j1_s0), (0, .ref h0)]) := lv_sub hl [0, 1] rfl
                exact join2 _ _ _ _ ⟨(vi 21), (vi 22), by first | assumption | omega, rfl, hP, hD, hS, hl⟩
              · refine lv_iconst (v := (-1)) hx hb dX12_readBinder_72 (by decide) ?_
                refine lv_icmp_eq (tgt := 86) hx hb dX12_readBinder_73 (by decide) (fun c_73 => ?_) (fun c_73 => ?_)
                · have t_73 : ((kx69_1 : Nat) : Int) = -1 := toI_eq c_73 (nI_toInt (by omega)) (by decide)
                  have e9 : fT (fT vi 21 (vi 21)) 22 (vi 22) = vi := by funext q9; by_cases h9_21 : q9 = 21; (subst h9_21; exact ((fT_ne _ _ (Nat.ne_of_beq_eq_false rfl)).trans (fT_eq _ _ _)).trans (Eq.trans (by first | with_reducible rfl | with_reducible assumption | (symm; with_reducible assumption) | rfl | assumption | (symm; assumption) | (subst_vars; rfl)) (Eq.refl _).symm)); by_cases h9_22 : q9 = 22; (subst h9_22; exact (fT_eq _ _ _).trans (Eq.trans (by first | with_reducible rfl | with_reducible assumption | (symm; with_reducible assumption) | rfl | assumption | (symm; assumption) | (subst_vars; rfl)) (Eq.refl _).symm)); exact ((fT_ne _ _ h9_22).trans (fT_ne _ _ h9_21)).trans (Eq.refl _).symm
                  have hP := wr_Pi e9 hP
                  have hD := wr_Di e9 hD
                  clear e9
                  have hl : lv_has _ _ ([(1, .int j1_s0), (0, .ref h0)]) := lv_sub hl [0, 1] rfl
                  exact join2 _ _ _ _ ⟨(vi 21), (vi 22), by first | assumption | omega, rfl, hP, hD, hS, hl⟩
                · have t_73 : ¬ ((kx69_1 : Nat) : Int) = -1 := toI_neq c_73 (nI_toInt (by omega)) (by decide)
                  refine lv_aload_n hx hb dX12_readBinder_76 rfl (lv_at hl 1 rfl) ?_
                  refine lv_bipush (v := 10) hx hb dX12_readBinder_77 (by decide) ?_
                  refine lv_aload_n hx hb dX12_readBinder_79 rfl (lv_at hl 1 rfl) ?_
                  refine va_get (D := (dC, dI)) (ci := 12) (v := .int (vi 19)) (C := RX12) (T := TX12) (N := 163) (fs := fM (vS a vi vj)) hx hb hts iwsRX12_readBinder_in12 hown hK hP 0 rfl rfl 19 (by decide) (hts _ hm_r_X12_readBinder_1) (fun _ h9 => h9) rfl dX12_readBinder_80 ?_
                  refine lv_topi (fun y11 hy11 => ?_)
                  obtain rfl : (nI fn) = y11 := (hy11.trans (hfr)).symm
                  have hFc := allFree hD hS hA
                  refine va_callv (va_runV (As := [.int 10, .int (nI fn)]) (rest := []) ⟨hx, hb, hml, hown, hts⟩ (r_X12_faultAt l dC dI a k h0 vi vj vF vG 10 (nI fn) (by first | with_reducible assumption | decide | omega | rfl | assumption) H.size) (cwV 2 hts gwsRX12_readBinder_2 rfl rfl rfl hd_yX12_faultAt_RX12 (by decide +kernel)) (fz_pre (va_recv hK hP (ci := 12) (q0 := 0) rfl rfl) hP hK hD) rfl rfl hl.1 rfl (lv_room (Nat.le_of_ble_eq_true rfl)) dX12_readBinder_83 (by decide +kernel)) hS (fun q _ h => hFc q h) hFc (fun u t9_ H locs ht hvm hw9 hB9 hz1 hk1 hS => ?_)
                  revert u hw9 hB9
                  refine fz_p2 ?_
                  intro s283_4 p283_4 hw9 hB9
                  try dsimp only at hw9 hB9
                  have hP : va_P (dC, dI) vwCl (WR a k h0 (fT (fT vi 21 s283_4) 22 p283_4) vj vF vG) H := fz_P ht hB9.1
                  have hD := fz_sd hP (hB9.2.weaken (fun _ q _ h => hFc q.1 h)) rfl
                  revert hw9
                  refine fz_a2 ?_
                  intro f83_4_0 f83_4_1
                  have f83_4_0 : (0 < (vi 21).toInt ∧ s283_4 = (vi 21) ∧ p283_4 = (vi 22)) ∨ (¬ 0 < (vi 21).toInt ∧ s283_4 = 10 ∧ p283_4 = (nI fn)) := f83_4_0
                  have hl : lv_has _ _ ([(1, .int j1_s0), (0, .ref h0)]) := lv_sub hl [0, 1] rfl
                  exact join2 _ _ _ _ ⟨s283_4, p283_4, by first | assumption | omega, rfl, hP, hD, hS, hl⟩
      · rintro H locs ls stk ⟨j2_i21, j2_i22, hj2_i21, rfl, hP, hD, hS, hl⟩
        refine lv_aload_n hx hb dX12_readBinder_86 rfl (lv_at hl 1 rfl) ?_
        refine va_get (D := (dC, dI)) (ci := 12) (v := .int j2_i21) (C := RX12) (T := TX12) (N := 163) (fs := fM (vS a (fT (fT vi 21 j2_i21) 22 j2_i22) vj)) hx hb hts iwsRX12_readBinder_in12 hown hK hP 0 rfl rfl 21 (by decide) (hts (.fieldLink RX12 515 "OptimaWorksModel" "stop" "I") (by decide +kernel)) (fun _ h9 => h9) rfl dX12_readBinder_87 ?_
        refine lv_if_le (tgt := 95) hx hb dX12_readBinder_90 (by decide) (fun c_90 => ?_) (fun c_90 => ?_)
        · have t_90 : (j2_i21).toInt ≤ 0 := toI_le c_90 rfl (by decide)
          have hfl := hLx.2.2.1.resolve_left (fun h => by rw [h] at c_5; exact absurd c_5 (by decide))
          refine lv_aload_n hx hb dX12_readBinder_95 rfl (lv_at hl 1 rfl) ?_
          refine va_get (D := (dC, dI)) (ci := 12) (v := .int (vi 19)) (C := RX12) (T := TX12) (N := 163) (fs := fM (vS a (fT (fT vi 21 j2_i21) 22 j2_i22) vj)) hx hb hts iwsRX12_readBinder_in12 hown hK hP 0 rfl rfl 19 (by decide) (hts _ hm_r_X12_readBinder_1) (fun _ h9 => h9) rfl dX12_readBinder_96 ?_
          refine lv_topi (fun y12 hy12 => ?_)
          obtain rfl : (nI fn) = y12 := (hy12.trans (hfr)).symm
          refine lv_istore_n hx hb dX12_readBinder_99 rfl hl (by decide) rfl (fun ls (hl : lv_has ls _ ([(2, .int (nI fn)), (1, .int j1_s0), (0, .ref h0)])) => ?_)
          refine lv_aload_n hx hb dX12_readBinder_100 rfl (lv_at hl 2 rfl) ?_
          refine va_get (D := (dC, dI)) (ci := 12) (v := .int (vi 17)) (C := RX12) (T := TX12) (N := 163) (fs := fM (vS a (fT (fT vi 21 j2_i21) 22 j2_i22) vj)) hx hb hts iwsRX12_readBinder_in12 hown hK hP 0 rfl rfl 17 (by decide) (hts _ hm_r_X12_readBinder_2) (fun _ h9 => h9) rfl dX12_readBinder_101 ?_
          refine lv_topi (fun y13 hy13 => ?_)
          obtain rfl : (nI an) = y13 := (hy13.trans (ha0)).symm
          refine lv_aload_n hx hb dX12_readBinder_104 rfl (lv_at hl 2 rfl) ?_
          refine va_get (D := (dC, dI)) (ci := 12) (v := .int (vi 19)) (C := RX12) (T := TX12) (N := 163) (fs := fM (vS a (fT (fT vi 21 j2_i21) 22 j2_i22) vj)) hx hb hts iwsRX12_readBinder_in12 hown hK hP 0 rfl rfl 19 (by decide) (hts _ hm_r_X12_readBinder_1) (fun _ h9 => h9) rfl dX12_readBinder_105 ?_
          refine lv_topi (fun y14 hy14 => ?_)
          obtain rfl : (nI fn) = y14 := (hy14.trans (hfr)).symm
          refine lv_isub hx hb dX12_readBinder_108 ?_
          refine lv_topi (fun y15 hy15 => ?_)
          obtain rfl : (nI (an - fn)) = y15 := (hy15.trans (pk_sub (a := an) (b := fn) (by omega))).symm
          refine lv_istore_n hx hb dX12_readBinder_109 rfl hl (by decide) rfl (fun ls (hl : lv_has ls _ ([(3, .int (nI (an - fn))), (2, .int (nI fn)), (1, .int j1_s0), (0, .ref h0)])) => ?_)
          refine lv_aload_n hx hb dX12_readBinder_110 rfl (lv_at hl 3 rfl) ?_
          have hFc := allFree hD hS hA
          refine va_callv (va_runV (As := []) (rest := []) ⟨hx, hb, hml, hown, hts⟩ (r_X12_next l dC dI a k h0 (fT (fT vi 21 j2_i21) 22 j2_i22) vj vF vG tp an hTp (by first | with_reducible assumption | decide | omega | rfl | assumption) ha0 (by first | with_reducible assumption | decide | omega | rfl | assumption) H.size) (cwV 0 hts gwsRX12_readBinder_4 rfl rfl rfl hd_yX12_next_RX12 (by decide +kernel)) (fz_preE (va_recv hK hP (ci := 12) (q0 := 0) rfl rfl) hP hK hD (fun a U g mk qE => qE.same rfl) (fun U hU9 hW => by rw [hU9]; exact (((hE : StrA A s s.heap).kept hS.2.1).narrow (fun q h => hFc q h)).warm hW)) rfl rfl hl.1 rfl (lv_room (Nat.le_of_ble_eq_true rfl)) dX12_readBinder_111 (by decide +kernel)) hS (fun q _ h => hFc q h) hFc (fun u t9_ H locs ht hvm hw9 hB9 hz1 hk1 hS => ?_)
          revert u hw9 hB9
          refine fz_p4 ?_
          intro a2111 f2111 sg111 wd111 hw9 hB9
          try dsimp only at hw9 hB9
          have hP : va_P (dC, dI) vwCl (WR a k h0 (fT (fT (fT (fT (fT (fT vi 21 j2_i21) 22 j2_i22) 17 (nI a2111)) 19 (nI f2111)) 20 sg111) 18 wd111) vj vF vG) H := fz_P ht hB9.1
          have hD := fz_sd hP (hB9.2.weaken (fun _ q _ h => hFc q.1 h)) rfl
          revert hw9
          refine fz_a2 ?_
          intro f111_0 f111_1
          refine lv_aload_n hx hb dX12_readBinder_114 rfl (lv_at hl 3 rfl) ?_
          refine lv_bipush (v := 11) hx hb dX12_readBinder_115 (by decide) ?_
          have hFc := allFree hD hS hA
          refine va_calli (va_runV (As := [.int 11]) (rest := []) ⟨hx, hb, hml, hown, hts⟩ (r_X12_needKey l dC dI a k h0 (fT (fT (fT (fT (fT (fT vi 21 j2_i21) 22 j2_i22) 17 (nI a2111)) 19 (nI f2111)) 20 sg111) 18 wd111) vj vF vG 11 tp a2111 f2111 hTp (by first | with_reducible assumption | decide | omega | rfl | assumption) rfl rfl (f111_0) (by first | with_reducible assumption | decide | omega | rfl | assumption) H.size) (cwV 1 hts gwsRX12_readBinder_5 rfl rfl rfl hd_yX12_needKey_RX12 (by decide +kernel)) (fz_preE (va_recv hK hP (ci := 12) (q0 := 0) rfl rfl) hP hK hD (fun a U g mk qE => qE.same rfl) (fun U hU9 hW => by rw [hU9]; exact (((hE : StrA A s s.heap).kept hS.2.1).narrow (fun q h => hFc q h)).warm hW)) rfl rfl hl.1 rfl (lv_room (Nat.le_of_ble_eq_true rfl)) dX12_readBinder_117 (by decide +kernel)) hS (fun q _ h => hFc q h) hFc (fun r117 u t9_ H locs ht hvm hw9 hB9 hz1 hk1 hS => ?_)
          revert u hw9 hB9
          refine fz_p6 ?_
          intro a2117 f2117 sg117 wd117 s2117 p2117 hw9 hB9
          try dsimp only at hw9 hB9
          have e9i : fT (fT (fT (fT (fT (fT vi 21 s2117) 22 p2117) 17 (nI a2117)) 19 (nI f2117)) 20 sg117) 18 wd117 = fT (fT (fT (fT (fT (fT (fT (fT (fT (fT (fT (fT vi 21 j2_i21) 22 j2_i22) 17 (nI a2111)) 19 (nI f2111)) 20 sg111) 18 wd111) 17 (nI a2117)) 19 (nI f2117)) 20 sg117) 18 wd117) 21 s2117) 22 p2117 := Eq.symm (Eq.trans (congrArg (fun g9 => fT g9 22 p2117) (Eq.trans (congrArg (fun g9 => fT g9 21 s2117) (Eq.trans (congrArg (fun g9 => fT g9 18 wd117) (Eq.trans (congrArg (fun g9 => fT g9 20 sg117) (Eq.trans (congrArg (fun g9 => fT g9 19 (nI f2117)) (up_3 rfl)) (up_2 rfl))) (up_1 rfl))) (up_0 rfl))) (up_5 rfl))) (up_4 rfl))
          have hP := wr_Pi e9i (fz_P ht hB9.1)
          have hD := wr_Di e9i (hB9.2.weaken (fun _ q _ h => hFc q.1 h))
          clear e9i
          rcases hw9 with ⟨rfl, f117_0, f117_1, f117_2, f117_3⟩ | ⟨rfl, f117_0, f117_1, f117_2⟩
          · have f117_3 : j2_i21 = 0 := f117_3
            refine lv_if_ne (tgt := 125) hx hb dX12_readBinder_120 (by decide) (fun _ => ?_) (fun c9 => absurd c9 (by decide))
            refine lv_aload_n hx hb dX12_readBinder_125 rfl (lv_at hl 3 rfl) ?_
            have hFc := allFree hD hS hA
            refine va_calli (va_runV (As := []) (rest := []) ⟨hx, hb, hml, hown, hts⟩ (r_X12_readSet l dC dI a k h0 (fT (fT (fT (fT (fT (fT vi 21 s2117) 22 p2117) 17 (nI a2117)) 19 (nI f2117)) 20 sg117) 18 wd117) vj vF vG tp a2117 f2117 nm se pa va hTp (by first | with_reducible assumption | decide | omega | rfl | assumption) rfl rfl (f117_1) (by (have h9 : (s2117).toInt = 0 := by rw [f117_0]; decide); show 0 ≤ (s2117).toInt; omega) hnm (by first | with_reducible assumption | decide | omega | rfl | assumption) (by first | with_reducible assumption | decide | omega | rfl | assumption) (by first | with_reducible assumption | decide | omega | rfl | assumption) H.size) (cwV 0 hts gwsRX12_readBinder_6 rfl rfl rfl hd_yX12_readSet_RX12 (by decide +kernel)) (fz_preE (va_recv hK hP (ci := 12) (q0 := 0) rfl rfl) hP hK hD (fun a U g mk qE => qE.same rfl) (fun U hU9 hW => by rw [hU9]; exact (((hE : StrA A s s.heap).kept hS.2.1).narrow (fun q h => hFc q h)).warm hW)) rfl rfl hl.1 rfl (lv_room (Nat.le_of_ble_eq_true rfl)) dX12_readBinder_126 (by decide +kernel)) hS (fun q _ h => hFc q h) hFc (fun r126 u t9_ H locs ht hvm hw9 hB9 hz1 hk1 hS => ?_)
            revert u hw9 hB9
            refine fz_p6 ?_
            intro a2126 f2126 sg126 wd126 s2126 p2126 hw9 hB9
            try dsimp only at hw9 hB9
            have e9i : fT (fT (fT (fT (fT (fT vi 21 s2126) 22 p2126) 17 (nI a2126)) 19 (nI f2126)) 20 sg126) 18 wd126 = fT (fT (fT (fT (fT (fT (fT (fT (fT (fT (fT (fT vi 21 s2117) 22 p2117) 17 (nI a2117)) 19 (nI f2117)) 20 sg117) 18 wd117) 17 (nI a2126)) 19 (nI f2126)) 20 sg126) 18 wd126) 21 s2126) 22 p2126 := Eq.symm (Eq.trans (congrArg (fun g9 => fT g9 22 p2126) (Eq.trans (congrArg (fun g9 => fT g9 21 s2126) (Eq.trans (congrArg (fun g9 => fT g9 18 wd126) (Eq.trans (congrArg (fun g9 => fT g9 20 sg126) (Eq.trans (congrArg (fun g9 => fT g9 19 (nI f2126)) (up_3 rfl)) (up_2 rfl))) (up_1 rfl))) (up_0 rfl))) (up_5 rfl))) (up_4 rfl))
            have hP := wr_Pi e9i (fz_P ht hB9.1)
            have hD := wr_Di e9i (hB9.2.weaken (fun _ q _ h => hFc q.1 h))
            clear e9i
            revert hw9
            refine fz_a4 ?_
            intro f126_0 f126_1 f126_2 f126_3
            refine lv_istore hx hb dX12_readBinder_129 hl (by decide) rfl (fun ls (hl : lv_has ls _ ([(4, .int r126), (3, .int (nI (an - fn))), (2, .int (nI fn)), (1, .int j1_s0), (0, .ref h0)])) => ?_)
            refine lv_aload_n hx hb dX12_readBinder_131 rfl (lv_at hl 4 rfl) ?_
            refine va_get (D := (dC, dI)) (ci := 12) (v := .ref (a 14)) (C := RX12) (T := TX12) (N := 163) (fs := fM (vS a (fT (fT (fT (fT (fT (fT vi 21 s2126) 22 p2126) 17 (nI a2126)) 19 (nI f2126)) 20 sg126) 18 wd126) vj)) hx hb hts iwsRX12_readBinder_in12 hown hK hP 0 rfl rfl 31 (by decide) (hts (.fieldLink RX12 62 "OptimaWorksModel" "binderFrom" "[I") (by decide +kernel)) (fun _ h9 => h9) rfl dX12_readBinder_132 ?_
            refine lv_aload_n hx hb dX12_readBinder_135 rfl (lv_at hl 4 rfl) ?_
            refine va_get (D := (dC, dI)) (ci := 12) (v := .int (vi 30)) (C := RX12) (T := TX12) (N := 163) (fs := fM (vS a (fT (fT (fT (fT (fT (fT vi 21 s2126) 22 p2126) 17 (nI a2126)) 19 (nI f2126)) 20 sg126) 18 wd126) vj)) hx hb hts iwsRX12_readBinder_in12 hown hK hP 0 rfl rfl 30 (by decide) (hts _ hm_r_X12_readBinder_3) (fun _ h9 => h9) rfl dX12_readBinder_136 ?_
            refine lv_topi (fun y16 hy16 => ?_)
            obtain rfl : (nI bd) = y16 := (hy16.trans (hbd)).symm
            refine lv_iload_n hx hb dX12_readBinder_139 rfl (lv_at hl 2 rfl) ?_
            refine va_iast (cA := k 14) (n := 60) (f := (vF 14)) hx hb hK hP hD hS 15 14 (WR_get 14 (by decide)) (TR_get 14 (by decide)) (vp_in_nI (show bd < 60 by omega) (by omega)) dX12_readBinder_140 (fun H locs hP hD hS => ?_)
            have hP : va_P (dC, dI) vwCl (WR a k h0 (fT (fT (fT (fT (fT (fT vi 21 s2126) 22 p2126) 17 (nI a2126)) 19 (nI f2126)) 20 sg126) 18 wd126) vj (fT vF 14 (upd (vF 14) ((nI bd)).toNatClampNeg (nI fn))) vG) H := fz_w (WR_F 14 (by decide) _ rfl) hP
            have hD : va_D A (WR a k h0 (fT (fT (fT (fT (fT (fT vi 21 s2126) 22 p2126) 17 (nI a2126)) 19 (nI f2126)) 20 sg126) 18 wd126) vj (fT vF 14 (upd (vF 14) ((nI bd)).toNatClampNeg (nI fn))) vG) := fz_wD (WR_F 14 (by decide) _ rfl) hD
            refine lv_aload_n hx hb dX12_readBinder_141 rfl (lv_at hl 4 rfl) ?_
            refine va_get (D := (dC, dI)) (ci := 12) (v := .ref (a 15)) (C := RX12) (T := TX12) (N := 163) (fs := fM (vS a (fT (fT (fT (fT (fT (fT vi 21 s2126) 22 p2126) 17 (nI a2126)) 19 (nI f2126)) 20 sg126) 18 wd126) vj)) hx hb hts iwsRX12_readBinder_in12 hown hK hP 0 rfl rfl 32 (by decide) (hts (.fieldLink RX12 65 "OptimaWorksModel" "binderLong" "[I") (by decide +kernel)) (fun _ h9 => h9) rfl dX12_readBinder_142 ?_
            refine lv_aload_n hx hb dX12_readBinder_145 rfl (lv_at hl 4 rfl) ?_
            refine va_get (D := (dC, dI)) (ci := 12) (v := .int (vi 30)) (C := RX12) (T := TX12) (N := 163) (fs := fM (vS a (fT (fT (fT (fT (fT (fT vi 21 s2126) 22 p2126) 17 (nI a2126)) 19 (nI f2126)) 20 sg126) 18 wd126) vj)) hx hb hts iwsRX12_readBinder_in12 hown hK hP 0 rfl rfl 30 (by decide) (hts _ hm_r_X12_readBinder_3) (fun _ h9 => h9) rfl dX12_readBinder_146 ?_
            refine lv_topi (fun y17 hy17 => ?_)
            obtain rfl : (nI bd) = y17 := (hy17.trans (hbd)).symm
            refine lv_iload_n hx hb dX12_readBinder_149 rfl (lv_at hl 1 rfl) ?_
            refine va_iast (cA := k 15) (n := 60) (f := (vF 15)) hx hb hK hP hD hS 16 15 (WR_get 15 (by decide)) (TR_get 15 (by decide)) (vp_in_nI (show bd < 60 by omega) (by omega)) dX12_readBinder_150 (fun H locs hP hD hS => ?_)
            have hP : va_P (dC, dI) vwCl (WR a k h0 (fT (fT (fT (fT (fT (fT vi 21 s2126) 22 p2126) 17 (nI a2126)) 19 (nI f2126)) 20 sg126) 18 wd126) vj (fT (fT vF 14 (upd (vF 14) ((nI bd)).toNatClampNeg (nI fn))) 15 (upd (vF 15) ((nI bd)).toNatClampNeg (nI (an - fn)))) vG) H := fz_w (WR_F 15 (by decide) _ rfl) hP
            have hD : va_D A (WR a k h0 (fT (fT (fT (fT (fT (fT vi 21 s2126) 22 p2126) 17 (nI a2126)) 19 (nI f2126)) 20 sg126) 18 wd126) vj (fT (fT vF 14 (upd (vF 14) ((nI bd)).toNatClampNeg (nI fn))) 15 (upd (vF 15) ((nI bd)).toNatClampNeg (nI (an - fn)))) vG) := fz_wD (WR_F 15 (by decide) _ rfl) hD
            refine lv_aload_n hx hb dX12_readBinder_151 rfl (lv_at hl 4 rfl) ?_
            refine lv_dup hx hb dX12_readBinder_152 rfl ?_
            refine va_get (D := (dC, dI)) (ci := 12) (v := .int (vi 30)) (C := RX12) (T := TX12) (N := 163) (fs := fM (vS a (fT (fT (fT (fT (fT (fT vi 21 s2126) 22 p2126) 17 (nI a2126)) 19 (nI f2126)) 20 sg126) 18 wd126) vj)) hx hb hts iwsRX12_readBinder_in12 hown hK hP 0 rfl rfl 30 (by decide) (hts _ hm_r_X12_readBinder_3) (fun _ h9 => h9) rfl dX12_readBinder_153 ?_
            refine lv_topi (fun y18 hy18 => ?_)
            obtain rfl : (nI bd) = y18 := (hy18.trans (hbd)).symm
            refine lv_iconst (v := 1) hx hb dX12_readBinder_156 (by decide) ?_
            refine lv_iadd hx hb dX12_readBinder_157 ?_
            refine lv_topi (fun y19 hy19 => ?_)
            obtain rfl : (nI (bd + 1)) = y19 := (hy19.trans (nI_add bd 1)).symm
            refine va_put (D := (dC, dI)) (ci := 12) (v := .int (nI (bd + 1))) (ty := .int) (C := RX12) (T := TX12) (N := 163) (fs := fM (vS a (fT (fT (fT (fT (fT (fT vi 21 s2126) 22 p2126) 17 (nI a2126)) 19 (nI f2126)) 20 sg126) 18 wd126) vj)) hx hb hts iwsRX12_readBinder_in12 tyX12 tyX12_ok nmX12 hown hK hP hD hS 0 rfl rfl 30 (by decide) (hts _ hm_r_X12_readBinder_3) (fun _ h9 => h9) rfl (by decide +kernel) rfl rfl (Nat.le_of_ble_eq_true rfl) dX12_readBinder_158 (fun H locs hP hD hS => ?_)
            have hP : va_P (dC, dI) vwCl (WR a k h0 (fT (fT (fT (fT (fT (fT (fT vi 21 s2126) 22 p2126) 17 (nI a2126)) 19 (nI f2126)) 20 sg126) 18 wd126) 30 (nI (bd + 1))) vj (fT (fT vF 14 (upd (vF 14) ((nI bd)).toNatClampNeg (nI fn))) 15 (upd (vF 15) ((nI bd)).toNatClampNeg (nI (an - fn)))) vG) H := fz_w (WR_i 30 _ rfl) hP
            have hD : va_D A (WR a k h0 (fT (fT (fT (fT (fT (fT (fT vi 21 s2126) 22 p2126) 17 (nI a2126)) 19 (nI f2126)) 20 sg126) 18 wd126) 30 (nI (bd + 1))) vj (fT (fT vF 14 (upd (vF 14) ((nI bd)).toNatClampNeg (nI fn))) 15 (upd (vF 15) ((nI bd)).toNatClampNeg (nI (an - fn)))) vG) := fz_wD (WR_i 30 _ rfl) hD
            refine lv_iload hx hb dX12_readBinder_161 (lv_at hl 0 rfl) ?_
            refine W.widen (k := 0) (n := 0) (by decide +kernel) (by decide +kernel) ?_
            exact W.iret (v := r126) hx hb hr (fun t9_ ht hW => ⟨⟨r126, (a2126, f2126, sg126, wd126, s2126, p2126, (bd + 1), (upd (vF 14) ((nI bd)).toNatClampNeg (nI fn)), (upd (vF 15) ((nI bd)).toNatClampNeg (nI (an - fn)))), rfl, by (try dsimp only); exact ⟨f126_0, by omega, f126_2, by omega, (fun k hk => by rw [upd_at (by omega), upd_at (by omega)]; by_cases e9 : k = bd; (rw [if_pos e9, if_pos e9]; exact ⟨fn, an - fn, rfl, rfl, by omega⟩); (rw [if_neg e9, if_neg e9]; exact hbo k (by omega))), by rcases f126_3 with h9 | ⟨h9, h8, o, h7, h6⟩; (exact Or.inl h9); (exact Or.inr ⟨h9, by omega, rfl, o, h7, h6⟩)⟩, by rw [ht]; exact hP, hD⟩, hS.F ht⟩) hS.2.2 dX12_readBinder_163
          · refine lv_if_ne (tgt := 125) hx hb dX12_readBinder_120 (by decide) (fun c9 => absurd c9 (by decide)) (fun _ => ?_)
            refine lv_iconst (v := 0) hx hb dX12_readBinder_123 (by decide) ?_
            refine W.widen (k := 0) (n := 0) (by decide +kernel) (by decide +kernel) ?_
            have e9 : fT (fT (fT (fT (fT (fT (fT vi 21 s2117) 22 p2117) 17 (nI a2117)) 19 (nI f2117)) 20 sg117) 18 wd117) 30 (nI bd) = fT (fT (fT (fT (fT (fT vi 21 s2117) 22 p2117) 17 (nI a2117)) 19 (nI f2117)) 20 sg117) 18 wd117 := Eq.trans (congrArg (fT _ 30) (show nI bd = vi 30 from (by first | with_reducible rfl | with_reducible assumption | (symm; with_reducible assumption) | rfl | assumption | (symm; assumption) | (subst_vars; rfl)))) (id_6 rfl)
            have hP := wr_Pi e9 hP
            have hD := wr_Di e9 hD
            clear e9
            have e9 : fT (fT vF 14 (vF 14)) 15 (vF 15) = vF := (fT_id _ _ (fT_ne _ _ (Nat.ne_of_beq_eq_false rfl))).trans (fT_id _ _ (rfl))
            have hP := wr_PF e9 hP
            have hD := wr_DF e9 hD
            clear e9
            exact W.iret (v := 0) hx hb hr (fun t9_ ht hW => ⟨⟨0, (a2117, f2117, sg117, wd117, s2117, p2117, bd, (vF 14), (vF 15)), rfl, by (try dsimp only); exact ⟨f117_1, by omega, by omega, by omega, hbo, Or.inl f117_0⟩, by rw [ht]; exact hP, hD⟩, hS.F ht⟩) hS.2.2 dX12_readBinder_124
        · have t_90 : ¬ (j2_i21).toInt ≤ 0 := toI_nle c_90 rfl (by decide)
          refine lv_iconst (v := 0) hx hb dX12_readBinder_93 (by decide) ?_
          refine W.widen (k := 0) (n := 0) (by decide +kernel) (by decide +kernel) ?_
          have e9 : fT (fT (fT (fT (fT (fT (fT vi 21 j2_i21) 22 j2_i22) 17 (nI an)) 19 (nI fn)) 20 (vi 20)) 18 (vi 18)) 30 (nI bd) = fT (fT vi 21 j2_i21) 22 j2_i22 := Eq.trans (mv_4 rfl) (Eq.trans (congrArg (fT _ 17) (show nI an = vi 17 from (by first | with_reducible rfl | with_reducible assumption | (symm; with_reducible assumption) | rfl | assumption | (symm; assumption) | (subst_vars; rfl)))) (Eq.trans (id_6 rfl) (Eq.trans (mv_3 rfl) (Eq.trans (congrArg (fT _ 19) (show nI fn = vi 19 from (by first | with_reducible rfl | with_reducible assumption | (symm; with_reducible assumption) | rfl | assumption | (symm; assumption) | (subst_vars; rfl)))) (Eq.trans (id_5 rfl) (Eq.trans (mv_2 rfl) (Eq.trans (id_4 rfl) (Eq.trans (mv_1 rfl) (Eq.trans (id_3 rfl) (Eq.trans (congrArg (fT _ 30) (show nI bd = vi 30 from (by first | with_reducible rfl | with_reducible assumption | (symm; with_reducible assumption) | rfl | assumption | (symm; assumption) | (subst_vars; rfl)))) (id_2 rfl)))))))))))
          have hP := wr_Pi e9 hP
          have hD := wr_Di e9 hD
          clear e9
          have e9 : fT (fT vF 14 (vF 14)) 15 (vF 15) = vF := (fT_id _ _ (fT_ne _ _ (Nat.ne_of_beq_eq_false rfl))).trans (fT_id _ _ (rfl))
          have hP := wr_PF e9 hP
          have hD := wr_DF e9 hD
          clear e9
          exact W.iret (v := 0) hx hb hr (fun t9_ ht hW => ⟨⟨0, (an, fn, (vi 20), (vi 18), j2_i21, j2_i22, bd, (vF 14), (vF 15)), rfl, by (try dsimp only); exact ⟨hLx, Nat.le_refl _, by omega, by omega, hbo, Or.inl (by omega)⟩, by rw [ht]; exact hP, hD⟩, hS.F ht⟩) hS.2.2 dX12_readBinder_94
  · have t_5 : ¬ ((vi 18)).toInt = 1 := toI_neq c_5 rfl (by decide)
    refine lv_aload_n hx hb dX12_readBinder_8 rfl (lv_at hl 0 rfl) ?_
    have hFc := allFree hD hS hA
    refine va_callv (va_runV (As := []) (rest := []) ⟨hx, hb, hml, hown, hts⟩ (r_X12_wrong l dC dI a k h0 vi vj vF vG s.heap.size) (cwV 0 hts gwsRX12_readBinder_7 rfl rfl rfl hd_yX12_wrong_RX12 (by decide +kernel)) (fz_pre (va_recv hK hP (ci := 12) (q0 := 0) rfl rfl) hP hK hD) rfl rfl hl.1 rfl (lv_room (Nat.le_of_ble_eq_true rfl)) dX12_readBinder_9 (by decide +kernel)) hS (fun q _ h => hFc q h) hFc (fun u t9_ H locs ht hvm hw9 hB9 hz1 hk1 hS => ?_)
    revert u hw9 hB9
    refine fz_p2 ?_
    intro s29 p29 hw9 hB9
    try dsimp only at hw9 hB9
    have hP : va_P (dC, dI) vwCl (WR a k h0 (fT (fT vi 21 s29) 22 p29) vj vF vG) H := fz_P ht hB9.1
    have hD := fz_sd hP (hB9.2.weaken (fun _ q _ h => hFc q.1 h)) rfl
    revert hw9
    refine fz_a2 ?_
    intro f9_0 f9_1
    have f9_0 : (0 < (vi 21).toInt ∧ s29 = (vi 21) ∧ p29 = (vi 22)) ∨ (¬ 0 < (vi 21).toInt ∧ (s29 = 1 ∨ s29 = 2) ∧ p29 = (vi 19)) := f9_0
    refine lv_iconst (v := 0) hx hb dX12_readBinder_12 (by decide) ?_
    refine W.widen (k := 0) (n := 0) (by decide +kernel) (by decide +kernel) ?_
    have e9 : fT (fT (fT (fT (fT (fT (fT vi 21 s29) 22 p29) 17 (nI an)) 19 (nI fn)) 20 (vi 20)) 18 (vi 18)) 30 (nI bd) = fT (fT vi 21 s29) 22 p29 := Eq.trans (mv_4 rfl) (Eq.trans (congrArg (fT _ 17) (show nI an = vi 17 from (by first | with_reducible rfl | with_reducible assumption | (symm; with_reducible assumption) | rfl | assumption | (symm; assumption) | (subst_vars; rfl)))) (Eq.trans (id_6 rfl) (Eq.trans (mv_3 rfl) (Eq.trans (congrArg (fT _ 19) (show nI fn = vi 19 from (by first | with_reducible rfl | with_reducible assumption | (symm; with_reducible assumption) | rfl | assumption | (symm; assumption) | (subst_vars; rfl)))) (Eq.trans (id_5 rfl) (Eq.trans (mv_2 rfl) (Eq.trans (id_4 rfl) (Eq.trans (mv_1 rfl) (Eq.trans (id_3 rfl) (Eq.trans (congrArg (fT _ 30) (show nI bd = vi 30 from (by first | with_reducible rfl | with_reducible assumption | (symm; with_reducible assumption) | rfl | assumption | (symm; assumption) | (subst_vars; rfl)))) (id_2 rfl)))))))))))
    have hP := wr_Pi e9 hP
    have hD := wr_Di e9 hD
    clear e9
    have e9 : fT (fT vF 14 (vF 14)) 15 (vF 15) = vF := (fT_id _ _ (fT_ne _ _ (Nat.ne_of_beq_eq_false rfl))).trans (fT_id _ _ (rfl))
    have hP := wr_PF e9 hP
    have hD := wr_DF e9 hD
    clear e9
    exact W.iret (v := 0) hx hb hr (fun t9_ ht hW => ⟨⟨0, (an, fn, (vi 20), (vi 18), s29, p29, bd, (vF 14), (vF 15)), rfl, by (try dsimp only); exact ⟨hLx, Nat.le_refl _, by omega, by omega, hbo, Or.inl f9_1⟩, by rw [ht]; exact hP, hD⟩, hS.F ht⟩) hS.2.2 dX12_readBinder_13
theorem dX12_readBinding_0 : decode cX12_readBinding 0 = .ok (.aload_n 0, 1) := dk_42 (by decide +kernel)
theorem dX12_readBinding_1 : decode cX12_readBinding 1 = .ok (.getfield 546, 3) := dk_180 (by decide +kernel)
theorem dX12_readBinding_4 : decode cX12_readBinding 4 = .ok (.istore_n 1, 1) := dk_60 (by decide +kernel)
theorem dX12_readBinding_5 : decode cX12_readBinding 5 = .ok (.aload_n 0, 1) := dk_42 (by decide +kernel)
theorem dX12_readBinding_6 : decode cX12_readBinding 6 = .ok (.dup, 1) := dk_89 (by decide +kernel)
theorem dX12_readBinding_7 : decode cX12_readBinding 7 = .ok (.getfield 546, 3) := dk_180 (by decide +kernel)
theorem dX12_readBinding_10 : decode cX12_readBinding 10 = .ok (.iconst 1, 1) := dk_4 (by decide +kernel)
theorem dX12_readBinding_11 : decode cX12_readBinding 11 = .ok (.iadd, 1) := dk_96 (by decide +kernel)
theorem dX12_readBinding_12 : decode cX12_readBinding 12 = .ok (.putfield 546, 3) := dk_181 (by decide +kernel)
theorem dX12_readBinding_15 : decode cX12_readBinding 15 = .ok (.aload_n 0, 1) := dk_42 (by decide +kernel)
theorem dX12_readBinding_16 : decode cX12_readBinding 16 = .ok (.getfield 137, 3) := dk_180 (by decide +kernel)
theorem dX12_readBinding_19 : decode cX12_readBinding 19 = .ok (.iload_n 1, 1) := dk_27 (by decide +kernel)
theorem dX12_readBinding_20 : decode cX12_readBinding 20 = .ok (.aload_n 0, 1) := dk_42 (by decide +kernel)
theorem dX12_readBinding_21 : decode cX12_readBinding 21 = .ok (.getfield 540, 3) := dk_180 (by decide +kernel)
theorem dX12_readBinding_24 : decode cX12_readBinding 24 = .ok (.iastore, 1) := dk_79 (by decide +kernel)
theorem dX12_readBinding_25 : decode cX12_readBinding 25 = .ok (.aload_n 0, 1) := dk_42 (by decide +kernel)
theorem dX12_readBinding_26 : decode cX12_readBinding 26 = .ok (.getfield 134, 3) := dk_180 (by decide +kernel)
theorem dX12_readBinding_29 : decode cX12_readBinding 29 = .ok (.iload_n 1, 1) := dk_27 (by decide +kernel)
theorem dX12_readBinding_30 : decode cX12_readBinding 30 = .ok (.iconst (-1), 1) := dk_2 (by decide +kernel)
theorem dX12_readBinding_31 : decode cX12_readBinding 31 = .ok (.iastore, 1) := dk_79 (by decide +kernel)
theorem dX12_readBinding_32 : decode cX12_readBinding 32 = .ok (.aload_n 0, 1) := dk_42 (by decide +kernel)
theorem dX12_readBinding_33 : decode cX12_readBinding 33 = .ok (.getfield 131, 3) := dk_180 (by decide +kernel)
theorem dX12_readBinding_36 : decode cX12_readBinding 36 = .ok (.iload_n 1, 1) := dk_27 (by decide +kernel)
theorem dX12_readBinding_37 : decode cX12_readBinding 37 = .ok (.aload_n 0, 1) := dk_42 (by decide +kernel)
theorem dX12_readBinding_38 : decode cX12_readBinding 38 = .ok (.invokevirtual 549, 3) := dk_182 (by decide +kernel)
theorem dX12_readBinding_41 : decode cX12_readBinding 41 = .ok (.iastore, 1) := dk_79 (by decide +kernel)
theorem dX12_readBinding_42 : decode cX12_readBinding 42 = .ok (.aload_n 0, 1) := dk_42 (by decide +kernel)
theorem dX12_readBinding_43 : decode cX12_readBinding 43 = .ok (.getfield 515, 3) := dk_180 (by decide +kernel)
theorem dX12_readBinding_46 : decode cX12_readBinding 46 = .ok (.ifCond .ne 26, 3) := dk_154 (by decide +kernel)
theorem dX12_readBinding_49 : decode cX12_readBinding 49 = .ok (.aload_n 0, 1) := dk_42 (by decide +kernel)
theorem dX12_readBinding_50 : decode cX12_readBinding 50 = .ok (.bipush 44, 2) := dk_16 (by decide +kernel)
theorem dX12_readBinding_52 : decode cX12_readBinding 52 = .ok (.invokevirtual 521, 3) := dk_182 (by decide +kernel)
theorem dX12_readBinding_55 : decode cX12_readBinding 55 = .ok (.ifCond .eq 17, 3) := dk_153 (by decide +kernel)
theorem dX12_readBinding_58 : decode cX12_readBinding 58 = .ok (.aload_n 0, 1) := dk_42 (by decide +kernel)
theorem dX12_readBinding_59 : decode cX12_readBinding 59 = .ok (.invokevirtual 524, 3) := dk_182 (by decide +kernel)
theorem dX12_readBinding_62 : decode cX12_readBinding 62 = .ok (.aload_n 0, 1) := dk_42 (by decide +kernel)
theorem dX12_readBinding_63 : decode cX12_readBinding 63 = .ok (.getfield 134, 3) := dk_180 (by decide +kernel)
theorem dX12_readBinding_66 : decode cX12_readBinding 66 = .ok (.iload_n 1, 1) := dk_27 (by decide +kernel)
theorem dX12_readBinding_67 : decode cX12_readBinding 67 = .ok (.aload_n 0, 1) := dk_42 (by decide +kernel)
theorem dX12_readBinding_68 : decode cX12_readBinding 68 = .ok (.invokevirtual 549, 3) := dk_182 (by decide +kernel)
theorem dX12_readBinding_71 : decode cX12_readBinding 71 = .ok (.iastore, 1) := dk_79 (by decide +kernel)
theorem dX12_readBinding_72 : decode cX12_readBinding 72 = .ok (.iload_n 1, 1) := dk_27 (by decide +kernel)
theorem dX12_readBinding_73 : decode cX12_readBinding 73 = .ok (.ireturn, 1) := dk_172 (by decide +kernel)
def wsRX12_readBinding : List Cond := .code yX12_readBinding cX12_readBinding 2 (some .int) :: ([.fieldLink RX12 546 "OptimaWorksModel" "bindings" "I", .fieldLink RX12 137 "OptimaWorksModel" "bindAt" "[I", .fieldLink RX12 540 "OptimaWorksModel" "binders" "I", .fieldLink RX12 134 "OptimaWorksModel" "bindTwo" "[I", .fieldLink RX12 131 "OptimaWorksModel" "bindOne" "[I", .fieldLink RX12 515 "OptimaWorksModel" "stop" "I"] ++ wsX120 ++ (wsV RX12 549 RX12 yX12_readBinder wsRX12_readBinder) ++ (wsV RX12 521 RX12 yX12_isSign wsRX12_isSign) ++ (wsV RX12 524 RX12 yX12_next wsRX12_next))
theorem iwsRX12_readBinding_in12 : ∀ w ∈ wsX120, w ∈ wsRX12_readBinding := fun _ h => List.mem_cons_of_mem _ (List.mem_append_left _ (List.mem_append_left _ (List.mem_append_left _ (List.mem_append_right _ h))))
theorem gwsRX12_readBinding_0 : GoodIn wsRX12_readBinding (wsV RX12 549 RX12 yX12_readBinder wsRX12_readBinder) := goodIn_sub (fun _ h => List.mem_cons_of_mem _ (List.mem_append_left _ (List.mem_append_left _ (List.mem_append_right _ h)))) (gdV (by decide +kernel) gdwsRX12_readBinder)
theorem gwsRX12_readBinding_1 : GoodIn wsRX12_readBinding (wsV RX12 521 RX12 yX12_isSign wsRX12_isSign) := goodIn_sub (fun _ h => List.mem_cons_of_mem _ (List.mem_append_left _ (List.mem_append_right _ h))) (gdV (by decide +kernel) gdwsRX12_isSign)
theorem gwsRX12_readBinding_2 : GoodIn wsRX12_readBinding (wsV RX12 524 RX12 yX12_next wsRX12_next) := goodIn_sub (fun _ h => List.mem_cons_of_mem _ (List.mem_append_right _ h)) (gdV (by decide +kernel) gdwsRX12_next)
theorem gdwsRX12_readBinding : wsRX12_readBinding.all goodWord = true := gdC rfl (gdA (gdA (gdA (gdA (by decide +kernel : ([.fieldLink RX12 546 "OptimaWorksModel" "bindings" "I", .fieldLink RX12 137 "OptimaWorksModel" "bindAt" "[I", .fieldLink RX12 540 "OptimaWorksModel" "binders" "I", .fieldLink RX12 134 "OptimaWorksModel" "bindTwo" "[I", .fieldLink RX12 131 "OptimaWorksModel" "bindOne" "[I", .fieldLink RX12 515 "OptimaWorksModel" "stop" "I"] : List Cond).all goodWord = true) gdwsX120) (gdV (by decide +kernel) gdwsRX12_readBinder)) (gdV (by decide +kernel) gdwsRX12_isSign)) (gdV (by decide +kernel) gdwsRX12_next))
theorem hm_r_X12_readBinding_0 : (.fieldLink RX12 546 "OptimaWorksModel" "bindings" "I" : Cond) ∈ wsRX12_readBinding := by decide +kernel
theorem hm_r_X12_readBinding_1 : (.fieldLink RX12 134 "OptimaWorksModel" "bindTwo" "[I" : Cond) ∈ wsRX12_readBinding := by decide +kernel
set_option maxHeartbeats 4000000 in
set_option maxRecDepth 100000 in
/-- readBinding() -/
theorem r_X12_readBinding (l : Launch) (dC : Nat → ClassId) (dI : Nat → Nat → Nat) (a : Nat → Nat) (k : Nat → ClassId) (h0 : Nat) (vi : Nat → Int32) (vj : Nat → Int64) (vF : Nat → Nat → Int32) (vG : Nat → Nat → Int64) (tp : Nat) (an : Nat) (fn : Nat) (nm : Nat) (se : Nat) (pa : Nat) (va : Nat) (bd : Nat) (bs : Nat) (hTp : vi 16 = nI tp) (htp : tp ≤ 4000) (ha0 : vi 17 = nI an) (hfr : vi 19 = nI fn) (hLx : LxO tp fn an (vi 18) (vi 20)) (hst0 : 0 ≤ (vi 21).toInt) (hnm : vi 25 = nI nm) (hnm40 : nm ≤ 40) (hno : NmO (vF 11) (vF 12) nm) (hNk : NkO (vF 10) (vF 13) nm se pa va) (hbd : vi 30 = nI bd) (hbd56 : bd ≤ 56) (hbo : NmO (vF 14) (vF 15) 60) (hOw : OwO (vi 33) (vi 34)) (hbs : vi 60 = nI bs) (hbs9 : bs < 900) (sz : Nat) : Met l yX12_readBinding wsRX12_readBinding ({ frames := 10, cells := 0, slots := 0, locals := 218 }) (va_Pc [.ref h0] (fun U => U.heap.size = sz ∧ va_P (dC, dI) vwCl (WR a k h0 vi vj vF vG) U.heap ∧ va_K (dC, dI) vwCl (tX12 k) U ∧ va_D (fun _ => True) (WR a k h0 vi vj vF vG) ∧ StrA (va_A (WR a k h0 vi vj vF vG) sz) U U.heap)) (va_Qi (fun (r : Int32) (u : (Nat) × (Nat) × (Int32) × (Int32) × (Int32) × (Int32) × (Nat) × (Nat → Int32) × (Nat → Int32) × (Nat → Int32) × (Nat → Int32) × (Nat → Int32)) => r = (nI bs) ∧ (LxO tp (u.2.1) (u.1) (u.2.2.2.1) (u.2.2.1)) ∧ (fn ≤ (u.2.1)) ∧ (0 ≤ ((u.2.2.2.2.1)).toInt) ∧ ((u.2.2.2.2.2.2.1) ≤ bd + 2 ∧ bd ≤ (u.2.2.2.2.2.2.1)) ∧ (NmO (u.2.2.2.2.2.2.2.1) (u.2.2.2.2.2.2.2.2.1) 60) ∧ (∀ b, b ≠ bs → (u.2.2.2.2.2.2.2.2.2.1) b = vF 36 b ∧ (u.2.2.2.2.2.2.2.2.2.2.1) b = vF 37 b ∧ (u.2.2.2.2.2.2.2.2.2.2.2) b = vF 38 b) ∧ ((0 < ((u.2.2.2.2.1)).toInt) ∨ ((u.2.2.2.2.1) = 0 ∧ fn + 2 < (u.2.1) ∧ bd < (u.2.2.2.2.2.2.1) ∧ BnO (u.2.2.2.2.2.2.2.2.2.1) (u.2.2.2.2.2.2.2.2.2.2.1) (u.2.2.2.2.2.2.2.2.2.2.2) se bs ∧ (u.2.2.2.2.2.2.2.2.2.2.2) bs = nI bd))) (fun (u : (Nat) × (Nat) × (Int32) × (Int32) × (Int32) × (Int32) × (Nat) × (Nat → Int32) × (Nat → Int32) × (Nat → Int32) × (Nat → Int32) × (Nat → Int32)) t => va_P (dC, dI) vwCl (WR a k h0 (fT (fT (fT (fT (fT (fT (fT (fT vi 60 (nI (bs + 1))) 21 (u.2.2.2.2.1)) 22 (u.2.2.2.2.2.1)) 17 (nI (u.1))) 19 (nI (u.2.1))) 20 (u.2.2.1)) 18 (u.2.2.2.1)) 30 (nI (u.2.2.2.2.2.2.1))) vj (fT (fT (fT (fT (fT vF 38 (u.2.2.2.2.2.2.2.2.2.2.2)) 37 (u.2.2.2.2.2.2.2.2.2.2.1)) 14 (u.2.2.2.2.2.2.2.1)) 15 (u.2.2.2.2.2.2.2.2.1)) 36 (u.2.2.2.2.2.2.2.2.2.1)) vG) t.heap ∧ va_D (va_A (WR a k h0 vi vj vF vG) sz) (WR a k h0 (fT (fT (fT (fT (fT (fT (fT (fT vi 60 (nI (bs + 1))) 21 (u.2.2.2.2.1)) 22 (u.2.2.2.2.2.1)) 17 (nI (u.1))) 19 (nI (u.2.1))) 20 (u.2.2.1)) 18 (u.2.2.2.1)) 30 (nI (u.2.2.2.2.2.2.1))) vj (fT (fT (fT (fT (fT vF 38 (u.2.2.2.2.2.2.2.2.2.2.2)) 37 (u.2.2.2.2.2.2.2.2.2.2.1)) 14 (u.2.2.2.2.2.2.2.1)) 15 (u.2.2.2.2.2.2.2.2.1)) 36 (u.2.2.2.2.2.2.2.2.2.1)) vG)) (va_A (WR a k h0 vi vj vF vG) sz)) 0 0 (va_A (WR a k h0 vi vj vF vG) sz) := by
  refine Met.ofW (cc := cX12_readBinding) (maxL := 2) (ret := (some .int)) (by decide) rfl ?_
  intro p e s m args below meth c s₁ B hml hv
  obtain ⟨rfl, hsz, hP, hK, hD0, hE⟩ := hv
  have hx := B.exec
  have hb := B.bytes
  have hr := B.returns
  have hts := atoms_spec (ws := wsRX12_readBinding) B.pre
  have hown : s.vm.findClass RX12 = some m.cls := findClass_of_methodNamed B.named
  have hlocks := B.notSynchronized
  subst hsz
  have hD := hD0.self (sz := s.heap.size)
  generalize hAe : va_A (WR a k h0 vi vj vF vG) s.heap.size = A at hD hE ⊢
  have hA : ∀ q : Nat, s.heap.size ≤ q → A q := fun q h => by rw [← hAe]; exact Or.inr h
  have hS : va_S A s.heap s.heap [] := va_S.rf
  have hl := lv_entry ([.ref h0]) (n := 2) (Nat.le_of_ble_eq_true rfl)
  rw [lg_entry_eq]
  generalize (lg_sl ([.ref h0]) ++ List.replicate (2 - (lg_sl ([.ref h0])).length) Slot.unset).toArray = ls at hl ⊢
  have hl : lv_has ls 2 [(0, .ref h0)] := hl
  have hfa := hLx.1
  have han := hLx.2.1
  have han4 : an ≤ 4000 := by omega
  refine lv_aload_n hx hb dX12_readBinding_0 rfl (lv_at hl 0 rfl) ?_
  refine va_get (D := (dC, dI)) (ci := 12) (v := .int (vi 60)) (C := RX12) (T := TX12) (N := 163) (fs := fM (vS a vi vj)) hx hb hts iwsRX12_readBinding_in12 hown hK hP 0 rfl rfl 60 (by decide) (hts _ hm_r_X12_readBinding_0) (fun _ h9 => h9) rfl dX12_readBinding_1 ?_
  refine lv_topi (fun y1 hy1 => ?_)
  obtain rfl : (nI bs) = y1 := (hy1.trans (hbs)).symm
  refine lv_istore_n hx hb dX12_readBinding_4 rfl hl (by decide) rfl (fun ls (hl : lv_has ls _ ([(1, .int (nI bs)), (0, .ref h0)])) => ?_)
  refine lv_aload_n hx hb dX12_readBinding_5 rfl (lv_at hl 1 rfl) ?_
  refine lv_dup hx hb dX12_readBinding_6 rfl ?_
  refine va_get (D := (dC, dI)) (ci := 12) (v := .int (vi 60)) (C := RX12) (T := TX12) (N := 163) (fs := fM (vS a vi vj)) hx hb hts iwsRX12_readBinding_in12 hown hK hP 0 rfl rfl 60 (by decide) (hts _ hm_r_X12_readBinding_0) (fun _ h9 => h9) rfl dX12_readBinding_7 ?_
  refine lv_topi (fun y2 hy2 => ?_)
  obtain rfl : (nI bs) = y2 := (hy2.trans (hbs)).symm
  refine lv_iconst (v := 1) hx hb dX12_readBinding_10 (by decide) ?_
  refine lv_iadd hx hb dX12_readBinding_11 ?_
  refine lv_topi (fun y3 hy3 => ?_)
  obtain rfl : (nI (bs + 1)) = y3 := (hy3.trans (nI_add bs 1)).symm
  refine va_put (D := (dC, dI)) (ci := 12) (v := .int (nI (bs + 1))) (ty := .int) (C := RX12) (T := TX12) (N := 163) (fs := fM (vS a vi vj)) hx hb hts iwsRX12_readBinding_in12 tyX12 tyX12_ok nmX12 hown hK hP hD hS 0 rfl rfl 60 (by decide) (hts _ hm_r_X12_readBinding_0) (fun _ h9 => h9) rfl (by decide +kernel) rfl rfl (Nat.le_of_ble_eq_true rfl) dX12_readBinding_12 (fun H locs hP hD hS => ?_)
  have hP : va_P (dC, dI) vwCl (WR a k h0 (fT vi 60 (nI (bs + 1))) vj vF vG) H := fz_w (WR_i 60 _ rfl) hP
  have hD : va_D A (WR a k h0 (fT vi 60 (nI (bs + 1))) vj vF vG) := fz_wD (WR_i 60 _ rfl) hD
  refine lv_aload_n hx hb dX12_readBinding_15 rfl (lv_at hl 1 rfl) ?_
  refine va_get (D := (dC, dI)) (ci := 12) (v := .ref (a 38)) (C := RX12) (T := TX12) (N := 163) (fs := fM (vS a (fT vi 60 (nI (bs + 1))) vj)) hx hb hts iwsRX12_readBinding_in12 hown hK hP 0 rfl rfl 63 (by decide) (hts (.fieldLink RX12 137 "OptimaWorksModel" "bindAt" "[I") (by decide +kernel)) (fun _ h9 => h9) rfl dX12_readBinding_16 ?_
  refine lv_iload_n hx hb dX12_readBinding_19 rfl (lv_at hl 0 rfl) ?_
  refine lv_aload_n hx hb dX12_readBinding_20 rfl (lv_at hl 1 rfl) ?_
  refine va_get (D := (dC, dI)) (ci := 12) (v := .int (vi 30)) (C := RX12) (T := TX12) (N := 163) (fs := fM (vS a (fT vi 60 (nI (bs + 1))) vj)) hx hb hts iwsRX12_readBinding_in12 hown hK hP 0 rfl rfl 30 (by decide) (hts (.fieldLink RX12 540 "OptimaWorksModel" "binders" "I") (by decide +kernel)) (fun _ h9 => h9) rfl dX12_readBinding_21 ?_
  refine lv_topi (fun y4 hy4 => ?_)
  obtain rfl : (nI bd) = y4 := (hy4.trans (hbd)).symm
  refine va_iast (cA := k 38) (n := 900) (f := (vF 38)) hx hb hK hP hD hS 39 38 (WR_get 38 (by decide)) (TR_get 38 (by decide)) (vp_in_nI (show bs < 900 by omega) (by omega)) dX12_readBinding_24 (fun H locs hP hD hS => ?_)
  have hP : va_P (dC, dI) vwCl (WR a k h0 (fT vi 60 (nI (bs + 1))) vj (fT vF 38 (upd (vF 38) ((nI bs)).toNatClampNeg (nI bd))) vG) H := fz_w (WR_F 38 (by decide) _ rfl) hP
  have hD : va_D A (WR a k h0 (fT vi 60 (nI (bs + 1))) vj (fT vF 38 (upd (vF 38) ((nI bs)).toNatClampNeg (nI bd))) vG) := fz_wD (WR_F 38 (by decide) _ rfl) hD
  refine lv_aload_n hx hb dX12_readBinding_25 rfl (lv_at hl 1 rfl) ?_
  refine va_get (D := (dC, dI)) (ci := 12) (v := .ref (a 37)) (C := RX12) (T := TX12) (N := 163) (fs := fM (vS a (fT vi 60 (nI (bs + 1))) vj)) hx hb hts iwsRX12_readBinding_in12 hown hK hP 0 rfl rfl 62 (by decide) (hts _ hm_r_X12_readBinding_1) (fun _ h9 => h9) rfl dX12_readBinding_26 ?_
  refine lv_iload_n hx hb dX12_readBinding_29 rfl (lv_at hl 0 rfl) ?_
  refine lv_iconst (v := (-1)) hx hb dX12_readBinding_30 (by decide) ?_
  refine va_iast (cA := k 37) (n := 900) (f := (vF 37)) hx hb hK hP hD hS 38 37 (WR_get 37 (by decide)) (TR_get 37 (by decide)) (vp_in_nI (show bs < 900 by omega) (by omega)) dX12_readBinding_31 (fun H locs hP hD hS => ?_)
  have hP : va_P (dC, dI) vwCl (WR a k h0 (fT vi 60 (nI (bs + 1))) vj (fT (fT vF 38 (upd (vF 38) ((nI bs)).toNatClampNeg (nI bd))) 37 (upd (vF 37) ((nI bs)).toNatClampNeg (-1))) vG) H := fz_w (WR_F 37 (by decide) _ rfl) hP
  have hD : va_D A (WR a k h0 (fT vi 60 (nI (bs + 1))) vj (fT (fT vF 38 (upd (vF 38) ((nI bs)).toNatClampNeg (nI bd))) 37 (upd (vF 37) ((nI bs)).toNatClampNeg (-1))) vG) := fz_wD (WR_F 37 (by decide) _ rfl) hD
  refine lv_aload_n hx hb dX12_readBinding_32 rfl (lv_at hl 1 rfl) ?_
  refine va_get (D := (dC, dI)) (ci := 12) (v := .ref (a 36)) (C := RX12) (T := TX12) (N := 163) (fs := fM (vS a (fT vi 60 (nI (bs + 1))) vj)) hx hb hts iwsRX12_readBinding_in12 hown hK hP 0 rfl rfl 61 (by decide) (hts (.fieldLink RX12 131 "OptimaWorksModel" "bindOne" "[I") (by decide +kernel)) (fun _ h9 => h9) rfl dX12_readBinding_33 ?_
  refine lv_iload_n hx hb dX12_readBinding_36 rfl (lv_at hl 0 rfl) ?_
  refine lv_aload_n hx hb dX12_readBinding_37 rfl (lv_at hl 1 rfl) ?_
  have hFc := allFree hD hS hA
  refine va_calli (va_runV (As := []) (rest := [.int (nI bs), .ref (a 36)]) ⟨hx, hb, hml, hown, hts⟩ (r_X12_readBinder l dC dI a k h0 (fT vi 60 (nI (bs + 1))) vj (fT (fT vF 38 (upd (vF 38) ((nI bs)).toNatClampNeg (nI bd))) 37 (upd (vF 37) ((nI bs)).toNatClampNeg (-1))) vG tp an fn nm se pa va bd hTp (by first | with_reducible assumption | decide | omega | rfl | assumption) ha0 hfr (by first | with_reducible assumption | decide | omega | rfl | assumption) (by first | with_reducible assumption | decide | omega | rfl | assumption) hnm (by first | with_reducible assumption | decide | omega | rfl | assumption) (by first | with_reducible assumption | decide | omega | rfl | assumption) (by first | with_reducible assumption | decide | omega | rfl | assumption) hbd (by first | with_reducible assumption | decide | omega | rfl | assumption) (by first | with_reducible assumption | decide | omega | rfl | assumption) (by first | with_reducible assumption | decide | omega | rfl | assumption) H.size) (cwV 0 hts gwsRX12_readBinding_0 rfl rfl rfl hd_yX12_readBinder_RX12 (by decide +kernel)) (fz_preE (va_recv hK hP (ci := 12) (q0 := 0) rfl rfl) hP hK hD (fun a U g mk qE => qE.same rfl) (fun U hU9 hW => by rw [hU9]; exact (((hE : StrA A s s.heap).kept hS.2.1).narrow (fun q h => hFc q h)).warm hW)) rfl rfl hl.1 rfl (lv_room (Nat.le_of_ble_eq_true rfl)) dX12_readBinding_38 (by decide +kernel)) hS (fun q _ h => hFc q h) hFc (fun r38 u t9_ H locs ht hvm hw9 hB9 hz1 hk1 hS => ?_)
  revert u hw9 hB9
  refine fz_p9 ?_
  intro a238 f238 sg38 wd38 s238 p238 b238 g1438 g1538 hw9 hB9
  try dsimp only at hw9 hB9
  have hP : va_P (dC, dI) vwCl (WR a k h0 (fT (fT (fT (fT (fT (fT (fT (fT vi 60 (nI (bs + 1))) 21 s238) 22 p238) 17 (nI a238)) 19 (nI f238)) 20 sg38) 18 wd38) 30 (nI b238)) vj (fT (fT (fT (fT vF 38 (upd (vF 38) ((nI bs)).toNatClampNeg (nI bd))) 37 (upd (vF 37) ((nI bs)).toNatClampNeg (-1))) 14 g1438) 15 g1538) vG) H := fz_P ht hB9.1
  have hD := fz_sd hP (hB9.2.weaken (fun _ q _ h => hFc q.1 h)) rfl
  revert hw9
  refine fz_a6 ?_
  intro f38_0 f38_1 f38_2 f38_3 f38_4 f38_5
  refine va_iast (cA := k 36) (n := 900) (f := (vF 36)) hx hb hK hP hD hS 37 36 (WR_get 36 (by decide)) (TR_get 36 (by decide)) (vp_in_nI (show bs < 900 by omega) (by omega)) dX12_readBinding_41 (fun H locs hP hD hS => ?_)
  have hP : va_P (dC, dI) vwCl (WR a k h0 (fT (fT (fT (fT (fT (fT (fT (fT vi 60 (nI (bs + 1))) 21 s238) 22 p238) 17 (nI a238)) 19 (nI f238)) 20 sg38) 18 wd38) 30 (nI b238)) vj (fT (fT (fT (fT (fT vF 38 (upd (vF 38) ((nI bs)).toNatClampNeg (nI bd))) 37 (upd (vF 37) ((nI bs)).toNatClampNeg (-1))) 14 g1438) 15 g1538) 36 (upd (vF 36) ((nI bs)).toNatClampNeg r38)) vG) H := fz_w (WR_F 36 (by decide) _ rfl) hP
  have hD : va_D A (WR a k h0 (fT (fT (fT (fT (fT (fT (fT (fT vi 60 (nI (bs + 1))) 21 s238) 22 p238) 17 (nI a238)) 19 (nI f238)) 20 sg38) 18 wd38) 30 (nI b238)) vj (fT (fT (fT (fT (fT vF 38 (upd (vF 38) ((nI bs)).toNatClampNeg (nI bd))) 37 (upd (vF 37) ((nI bs)).toNatClampNeg (-1))) 14 g1438) 15 g1538) 36 (upd (vF 36) ((nI bs)).toNatClampNeg r38)) vG) := fz_wD (WR_F 36 (by decide) _ rfl) hD
  refine lv_aload_n hx hb dX12_readBinding_42 rfl (lv_at hl 1 rfl) ?_
  refine va_get (D := (dC, dI)) (ci := 12) (v := .int s238) (C := RX12) (T := TX12) (N := 163) (fs := fM (vS a (fT (fT (fT (fT (fT (fT (fT (fT vi 60 (nI (bs + 1))) 21 s238) 22 p238) 17 (nI a238)) 19 (nI f238)) 20 sg38) 18 wd38) 30 (nI b238)) vj)) hx hb hts iwsRX12_readBinding_in12 hown hK hP 0 rfl rfl 21 (by decide) (hts (.fieldLink RX12 515 "OptimaWorksModel" "stop" "I") (by decide +kernel)) (fun _ h9 => h9) rfl dX12_readBinding_43 ?_
  refine lv_if_ne (tgt := 72) hx hb dX12_readBinding_46 (by decide) (fun c_46 => ?_) (fun c_46 => ?_)
  · have t_46 : (s238).toInt ≠ 0 := toI_ne c_46 rfl (by decide)
    refine lv_iload_n hx hb dX12_readBinding_72 rfl (lv_at hl 0 rfl) ?_
    refine W.widen (k := 0) (n := 0) (by decide +kernel) (by decide +kernel) ?_
    exact W.iret (v := (nI bs)) hx hb hr (fun t9_ ht hW => ⟨⟨(nI bs), (a238, f238, sg38, wd38, s238, p238, b238, g1438, g1538, (upd (vF 36) ((nI bs)).toNatClampNeg r38), (upd (vF 37) ((nI bs)).toNatClampNeg (-1)), (upd (vF 38) ((nI bs)).toNatClampNeg (nI bd))), rfl, by (try dsimp only); exact ⟨rfl, f38_0, f38_1, f38_2, by omega, f38_4, fun b hb9 => ⟨by rw [upd_at (by omega), if_neg hb9], by rw [upd_at (by omega), if_neg hb9], by rw [upd_at (by omega), if_neg hb9]⟩, by rcases f38_5 with h9 | ⟨h9, h8, h5, o, h7, h6⟩; (exact Or.inl h9); (exact Or.inr ⟨h9, h8, by omega, ⟨⟨o, h7, by rw [upd_at (by omega), if_pos rfl]; exact h6⟩, Or.inl (by rw [upd_at (by omega), if_pos rfl]), ⟨bd, by omega, by rw [upd_at (by omega), if_pos rfl]⟩⟩, by rw [upd_at (by omega), if_pos rfl]⟩)⟩, by rw [ht]; exact hP, hD⟩, hS.F ht⟩) hS.2.2 dX12_readBinding_73
  · have t_46 : (s238).toInt = 0 := toI_nne c_46 rfl (by decide)
    have hz38 : (s238).toInt = 0 := by rw [c_46]; decide
    refine lv_aload_n hx hb dX12_readBinding_49 rfl (lv_at hl 1 rfl) ?_
    refine lv_bipush (v := 44) hx hb dX12_readBinding_50 (by decide) ?_
    have hFc := allFree hD hS hA
    refine va_calli (va_runV (As := [.int 44]) (rest := []) ⟨hx, hb, hml, hown, hts⟩ (r_X12_isSign l dC dI a k h0 (fT (fT (fT (fT (fT (fT (fT (fT vi 60 (nI (bs + 1))) 21 s238) 22 p238) 17 (nI a238)) 19 (nI f238)) 20 sg38) 18 wd38) 30 (nI b238)) vj (fT (fT (fT (fT (fT vF 38 (upd (vF 38) ((nI bs)).toNatClampNeg (nI bd))) 37 (upd (vF 37) ((nI bs)).toNatClampNeg (-1))) 14 g1438) 15 g1538) 36 (upd (vF 36) ((nI bs)).toNatClampNeg r38)) vG 44 H.size) (cwV 1 hts gwsRX12_readBinding_1 rfl rfl rfl hd_yX12_isSign_RX12 (by decide +kernel)) (fz_pre (va_recv hK hP (ci := 12) (q0 := 0) rfl rfl) hP hK hD) rfl rfl hl.1 rfl (lv_room (Nat.le_of_ble_eq_true rfl)) dX12_readBinding_52 (by decide +kernel)) hS (fun q _ h => hFc q h) hFc (fun r52 u t9_ H locs ht hvm hw9 hB9 hz1 hk1 hS => ?_)
    have hP : va_P (dC, dI) vwCl (WR a k h0 (fT (fT (fT (fT (fT (fT (fT (fT vi 60 (nI (bs + 1))) 21 s238) 22 p238) 17 (nI a238)) 19 (nI f238)) 20 sg38) 18 wd38) 30 (nI b238)) vj (fT (fT (fT (fT (fT vF 38 (upd (vF 38) ((nI bs)).toNatClampNeg (nI bd))) 37 (upd (vF 37) ((nI bs)).toNatClampNeg (-1))) 14 g1438) 15 g1538) 36 (upd (vF 36) ((nI bs)).toNatClampNeg r38)) vG) H := fz_P ht hB9.1
    have hD := fz_sd hP (hB9.2.weaken (fun _ q _ h => hFc q.1 h)) rfl
    rcases hw9 with ⟨rfl, f52_0, f52_1⟩ | ⟨rfl, f52_0⟩
    · have f52_0 : wd38.toInt = 4 := f52_0
      have f52_1 : sg38 = 44 := f52_1
      refine lv_if_eq (tgt := 72) hx hb dX12_readBinding_55 (by decide) (fun c9 => absurd c9 (by decide)) (fun _ => ?_)
      refine lv_aload_n hx hb dX12_readBinding_58 rfl (lv_at hl 1 rfl) ?_
      have hFc := allFree hD hS hA
      refine va_callv (va_runV (As := []) (rest := []) ⟨hx, hb, hml, hown, hts⟩ (r_X12_next l dC dI a k h0 (fT (fT (fT (fT (fT (fT (fT (fT vi 60 (nI (bs + 1))) 21 s238) 22 p238) 17 (nI a238)) 19 (nI f238)) 20 sg38) 18 wd38) 30 (nI b238)) vj (fT (fT (fT (fT (fT vF 38 (upd (vF 38) ((nI bs)).toNatClampNeg (nI bd))) 37 (upd (vF 37) ((nI bs)).toNatClampNeg (-1))) 14 g1438) 15 g1538) 36 (upd (vF 36) ((nI bs)).toNatClampNeg r38)) vG tp a238 hTp (by first | with_reducible assumption | decide | omega | rfl | assumption) rfl (f38_0.2.1) H.size) (cwV 0 hts gwsRX12_readBinding_2 rfl rfl rfl hd_yX12_next_RX12 (by decide +kernel)) (fz_preE (va_recv hK hP (ci := 12) (q0 := 0) rfl rfl) hP hK hD (fun a U g mk qE => qE.same rfl) (fun U hU9 hW => by rw [hU9]; exact (((hE : StrA A s s.heap).kept hS.2.1).narrow (fun q h => hFc q h)).warm hW)) rfl rfl hl.1 rfl (lv_room (Nat.le_of_ble_eq_true rfl)) dX12_readBinding_59 (by decide +kernel)) hS (fun q _ h => hFc q h) hFc (fun u t9_ H locs ht hvm hw9 hB9 hz1 hk1 hS => ?_)
      revert u hw9 hB9
      refine fz_p4 ?_
      intro a259 f259 sg59 wd59 hw9 hB9
      try dsimp only at hw9 hB9
      have e9i : fT (fT (fT (fT (fT (fT (fT (fT vi 60 (nI (bs + 1))) 21 s238) 22 p238) 17 (nI a259)) 19 (nI f259)) 20 sg59) 18 wd59) 30 (nI b238) = fT (fT (fT (fT (fT (fT (fT (fT (fT (fT (fT (fT vi 60 (nI (bs + 1))) 21 s238) 22 p238) 17 (nI a238)) 19 (nI f238)) 20 sg38) 18 wd38) 30 (nI b238)) 17 (nI a259)) 19 (nI f259)) 20 sg59) 18 wd59 := Eq.symm (Eq.trans (congrArg (fun g9 => fT g9 18 wd59) (Eq.trans (congrArg (fun g9 => fT g9 20 sg59) (Eq.trans (congrArg (fun g9 => fT g9 19 (nI f259)) (up_4 rfl)) (up_3 rfl))) (up_2 rfl))) (up_1 rfl))
      have hP := wr_Pi e9i (fz_P ht hB9.1)
      have hD := wr_Di e9i (hB9.2.weaken (fun _ q _ h => hFc q.1 h))
      clear e9i
      revert hw9
      refine fz_a2 ?_
      intro f59_0 f59_1
      have hbA := f59_0.1
      have hbB := f38_0.1
      refine lv_aload_n hx hb dX12_readBinding_62 rfl (lv_at hl 1 rfl) ?_
      refine va_get (D := (dC, dI)) (ci := 12) (v := .ref (a 37)) (C := RX12) (T := TX12) (N := 163) (fs := fM (vS a (fT (fT (fT (fT (fT (fT (fT (fT vi 60 (nI (bs + 1))) 21 s238) 22 p238) 17 (nI a259)) 19 (nI f259)) 20 sg59) 18 wd59) 30 (nI b238)) vj)) hx hb hts iwsRX12_readBinding_in12 hown hK hP 0 rfl rfl 62 (by decide) (hts _ hm_r_X12_readBinding_1) (fun _ h9 => h9) rfl dX12_readBinding_63 ?_
      refine lv_iload_n hx hb dX12_readBinding_66 rfl (lv_at hl 0 rfl) ?_
      refine lv_aload_n hx hb dX12_readBinding_67 rfl (lv_at hl 1 rfl) ?_
      have hFc := allFree hD hS hA
      refine va_calli (va_runV (As := []) (rest := [.int (nI bs), .ref (a 37)]) ⟨hx, hb, hml, hown, hts⟩ (r_X12_readBinder l dC dI a k h0 (fT (fT (fT (fT (fT (fT (fT (fT vi 60 (nI (bs + 1))) 21 s238) 22 p238) 17 (nI a259)) 19 (nI f259)) 20 sg59) 18 wd59) 30 (nI b238)) vj (fT (fT (fT (fT (fT vF 38 (upd (vF 38) ((nI bs)).toNatClampNeg (nI bd))) 37 (upd (vF 37) ((nI bs)).toNatClampNeg (-1))) 14 g1438) 15 g1538) 36 (upd (vF 36) ((nI bs)).toNatClampNeg r38)) vG tp a259 f259 nm se pa va b238 hTp (by first | with_reducible assumption | decide | omega | rfl | assumption) rfl rfl (f59_0) (f38_2) hnm (by first | with_reducible assumption | decide | omega | rfl | assumption) (by first | with_reducible assumption | decide | omega | rfl | assumption) (by first | with_reducible assumption | decide | omega | rfl | assumption) rfl (by omega) (f38_4) (hOw) H.size) (cwV 0 hts gwsRX12_readBinding_0 rfl rfl rfl hd_yX12_readBinder_RX12 (by decide +kernel)) (fz_preE (va_recv hK hP (ci := 12) (q0 := 0) rfl rfl) hP hK hD (fun a U g mk qE => qE.same rfl) (fun U hU9 hW => by rw [hU9]; exact (((hE : StrA A s s.heap).kept hS.2.1).narrow (fun q h => hFc q h)).warm hW)) rfl rfl hl.1 rfl (lv_room (Nat.le_of_ble_eq_true rfl)) dX12_readBinding_68 (by decide +kernel)) hS (fun q _ h => hFc q h) hFc (fun r68 u t9_ H locs ht hvm hw9 hB9 hz1 hk1 hS => ?_)
      revert u hw9 hB9
      refine fz_p9 ?_
      intro a268 f268 sg68 wd68 s268 p268 b268 g1468 g1568 hw9 hB9
      try dsimp only at hw9 hB9
      have e9i : fT (fT (fT (fT (fT (fT (fT (fT vi 60 (nI (bs + 1))) 21 s268) 22 p268) 17 (nI a268)) 19 (nI f268)) 20 sg68) 18 wd68) 30 (nI b268) = fT (fT (fT (fT (fT (fT (fT (fT (fT (fT (fT (fT (fT (fT (fT vi 60 (nI (bs + 1))) 21 s238) 22 p238) 17 (nI a259)) 19 (nI f259)) 20 sg59) 18 wd59) 30 (nI b238)) 21 s268) 22 p268) 17 (nI a268)) 19 (nI f268)) 20 sg68) 18 wd68) 30 (nI b268) := Eq.symm (Eq.trans (congrArg (fun g9 => fT g9 30 (nI b268)) (Eq.trans (congrArg (fun g9 => fT g9 18 wd68) (Eq.trans (congrArg (fun g9 => fT g9 20 sg68) (Eq.trans (congrArg (fun g9 => fT g9 19 (nI f268)) (Eq.trans (congrArg (fun g9 => fT g9 17 (nI a268)) (Eq.trans (congrArg (fun g9 => fT g9 22 p268) (up_6 rfl)) (up_5 rfl))) (up_4 rfl))) (up_3 rfl))) (up_2 rfl))) (up_1 rfl))) (up_0 rfl))
      have e9F : fT (fT (fT (fT (fT vF 38 (upd (vF 38) ((nI bs)).toNatClampNeg (nI bd))) 37 (upd (vF 37) ((nI bs)).toNatClampNeg (-1))) 14 g1468) 15 g1568) 36 (upd (vF 36) ((nI bs)).toNatClampNeg r38) = fT (fT (fT (fT (fT (fT (fT vF 38 (upd (vF 38) ((nI bs)).toNatClampNeg (nI bd))) 37 (upd (vF 37) ((nI bs)).toNatClampNeg (-1))) 14 g1438) 15 g1538) 36 (upd (vF 36) ((nI bs)).toNatClampNeg r38)) 14 g1468) 15 g1568 := ((congrArg (fun g9 => fT g9 15 g1568) ((fT_sw _ _ _ (Nat.ne_of_beq_eq_false rfl)).trans (congrArg (fun g9 => fT g9 36 (upd (vF 36) ((nI bs)).toNatClampNeg r38)) ((fT_sw _ _ _ (Nat.ne_of_beq_eq_false rfl)).trans (congrArg (fun g9 => fT g9 15 g1538) (fT_sm _ _ _ _)))))).trans ((fT_sw _ _ _ (Nat.ne_of_beq_eq_false rfl)).trans (congrArg (fun g9 => fT g9 36 (upd (vF 36) ((nI bs)).toNatClampNeg r38)) (fT_sm _ _ _ _)))).symm
      have hP := wr_PF e9F (wr_Pi e9i (fz_P ht hB9.1))
      have hD := wr_DF e9F (wr_Di e9i (hB9.2.weaken (fun _ q _ h => hFc q.1 h)))
      clear e9i e9F
      revert hw9
      refine fz_a6 ?_
      intro f68_0 f68_1 f68_2 f68_3 f68_4 f68_5
      refine va_iast (cA := k 37) (n := 900) (f := (upd (vF 37) ((nI bs)).toNatClampNeg (-1))) hx hb hK hP hD hS 38 37 (WR_get 37 (by decide)) (TR_get 37 (by decide)) (vp_in_nI (show bs < 900 by omega) (by omega)) dX12_readBinding_71 (fun H locs hP hD hS => ?_)
      have e9 : fT (fT (fT (fT (fT vF 38 (upd (vF 38) ((nI bs)).toNatClampNeg (nI bd))) 37 (upd (upd (vF 37) ((nI bs)).toNatClampNeg (-1)) ((nI bs)).toNatClampNeg r68)) 14 g1468) 15 g1568) 36 (upd (vF 36) ((nI bs)).toNatClampNeg r38) = fT (fT (fT (fT (fT (fT vF 38 (upd (vF 38) ((nI bs)).toNatClampNeg (nI bd))) 37 (upd (vF 37) ((nI bs)).toNatClampNeg (-1))) 14 g1468) 15 g1568) 36 (upd (vF 36) ((nI bs)).toNatClampNeg r38)) 37 (upd (upd (vF 37) ((nI bs)).toNatClampNeg (-1)) ((nI bs)).toNatClampNeg r68) := ((fT_sw _ _ _ (Nat.ne_of_beq_eq_false rfl)).trans (congrArg (fun g9 => fT g9 36 (upd (vF 36) ((nI bs)).toNatClampNeg r38)) ((fT_sw _ _ _ (Nat.ne_of_beq_eq_false rfl)).trans (congrArg (fun g9 => fT g9 15 g1568) ((fT_sw _ _ _ (Nat.ne_of_beq_eq_false rfl)).trans (congrArg (fun g9 => fT g9 14 g1468) (fT_sm _ _ _ _))))))).symm
      have hP := wr_PF e9 (fz_w (WR_F 37 (by decide) _ rfl) hP)
      have hD := wr_DF e9 (fz_wD (WR_F 37 (by decide) _ rfl) hD)
      clear e9
      refine lv_iload_n hx hb dX12_readBinding_72 rfl (lv_at hl 0 rfl) ?_
      refine W.widen (k := 0) (n := 0) (by decide +kernel) (by decide +kernel) ?_
      exact W.iret (v := (nI bs)) hx hb hr (fun t9_ ht hW => ⟨⟨(nI bs), (a268, f268, sg68, wd68, s268, p268, b268, g1468, g1568, (upd (vF 36) ((nI bs)).toNatClampNeg r38), (upd (upd (vF 37) ((nI bs)).toNatClampNeg (-1)) ((nI bs)).toNatClampNeg r68), (upd (vF 38) ((nI bs)).toNatClampNeg (nI bd))), rfl, by (try dsimp only); exact ⟨rfl, f68_0, by omega, f68_2, by omega, f68_4, fun b hb9 => ⟨by rw [upd_at (by omega), if_neg hb9], by rw [upd_at (by omega), if_neg hb9, upd_at (by omega), if_neg hb9], by rw [upd_at (by omega), if_neg hb9]⟩, by rcases f68_5 with h9 | ⟨h9, h8, h5, o2, h72, h62⟩; (exact Or.inl h9); (obtain ⟨_, h8a, h5a, o, h7, h6⟩ := f38_5.resolve_left (fun h => by omega); exact Or.inr ⟨h9, by omega, by omega, ⟨⟨o, h7, by rw [upd_at (by omega), if_pos rfl]; exact h6⟩, Or.inr ⟨o2, h72, by rw [upd_at (by omega), if_pos rfl]; exact h62⟩, ⟨bd, by omega, by rw [upd_at (by omega), if_pos rfl]⟩⟩, by rw [upd_at (by omega), if_pos rfl]⟩)⟩, by rw [ht]; exact hP, hD⟩, hS.F ht⟩) hS.2.2 dX12_readBinding_73
    · have f52_0 : ¬ (wd38.toInt = 4 ∧ sg38 = 44) := f52_0
      refine lv_if_eq (tgt := 72) hx hb dX12_readBinding_55 (by decide) (fun _ => ?_) (fun c9 => absurd (by decide) c9)
      refine lv_iload_n hx hb dX12_readBinding_72 rfl (lv_at hl 0 rfl) ?_
      refine W.widen (k := 0) (n := 0) (by decide +kernel) (by decide +kernel) ?_
      exact W.iret (v := (nI bs)) hx hb hr (fun t9_ ht hW => ⟨⟨(nI bs), (a238, f238, sg38, wd38, s238, p238, b238, g1438, g1538, (upd (vF 36) ((nI bs)).toNatClampNeg r38), (upd (vF 37) ((nI bs)).toNatClampNeg (-1)), (upd (vF 38) ((nI bs)).toNatClampNeg (nI bd))), rfl, by (try dsimp only); exact ⟨rfl, f38_0, f38_1, f38_2, by omega, f38_4, fun b hb9 => ⟨by rw [upd_at (by omega), if_neg hb9], by rw [upd_at (by omega), if_neg hb9], by rw [upd_at (by omega), if_neg hb9]⟩, by rcases f38_5 with h9 | ⟨h9, h8, h5, o, h7, h6⟩; (exact Or.inl h9); (exact Or.inr ⟨h9, h8, by omega, ⟨⟨o, h7, by rw [upd_at (by omega), if_pos rfl]; exact h6⟩, Or.inl (by rw [upd_at (by omega), if_pos rfl]), ⟨bd, by omega, by rw [upd_at (by omega), if_pos rfl]⟩⟩, by rw [upd_at (by omega), if_pos rfl]⟩)⟩, by rw [ht]; exact hP, hD⟩, hS.F ht⟩) hS.2.2 dX12_readBinding_73
theorem dX12_end1_0 : decode cX12_end1 0 = .ok (.aload_n 0, 1) := dk_42 (by decide +kernel)
theorem dX12_end1_1 : decode cX12_end1 1 = .ok (.dup, 1) := dk_89 (by decide +kernel)
theorem dX12_end1_2 : decode cX12_end1 2 = .ok (.getfield 577, 3) := dk_180 (by decide +kernel)
theorem dX12_end1_5 : decode cX12_end1 5 = .ok (.iconst 1, 1) := dk_4 (by decide +kernel)
theorem dX12_end1_6 : decode cX12_end1 6 = .ok (.isub, 1) := dk_100 (by decide +kernel)
theorem dX12_end1_7 : decode cX12_end1 7 = .ok (.putfield 577, 3) := dk_181 (by decide +kernel)
theorem dX12_end1_10 : decode cX12_end1 10 = .ok (.aload_n 0, 1) := dk_42 (by decide +kernel)
theorem dX12_end1_11 : decode cX12_end1 11 = .ok (.dup, 1) := dk_89 (by decide +kernel)
theorem dX12_end1_12 : decode cX12_end1 12 = .ok (.getfield 570, 3) := dk_180 (by decide +kernel)
theorem dX12_end1_15 : decode cX12_end1 15 = .ok (.aload_n 0, 1) := dk_42 (by decide +kernel)
theorem dX12_end1_16 : decode cX12_end1 16 = .ok (.getfield 167, 3) := dk_180 (by decide +kernel)
theorem dX12_end1_19 : decode cX12_end1 19 = .ok (.aload_n 0, 1) := dk_42 (by decide +kernel)
theorem dX12_end1_20 : decode cX12_end1 20 = .ok (.getfield 577, 3) := dk_180 (by decide +kernel)
theorem dX12_end1_23 : decode cX12_end1 23 = .ok (.iaload, 1) := dk_46 (by decide +kernel)
theorem dX12_end1_24 : decode cX12_end1 24 = .ok (.isub, 1) := dk_100 (by decide +kernel)
theorem dX12_end1_25 : decode cX12_end1 25 = .ok (.putfield 570, 3) := dk_181 (by decide +kernel)
theorem dX12_end1_28 : decode cX12_end1 28 = .ok (.aload_n 0, 1) := dk_42 (by decide +kernel)
theorem dX12_end1_29 : decode cX12_end1 29 = .ok (.iload_n 1, 1) := dk_27 (by decide +kernel)
theorem dX12_end1_30 : decode cX12_end1 30 = .ok (.putfield 580, 3) := dk_181 (by decide +kernel)
theorem dX12_end1_33 : decode cX12_end1 33 = .ok (.aload_n 0, 1) := dk_42 (by decide +kernel)
theorem dX12_end1_34 : decode cX12_end1 34 = .ok (.aload_n 0, 1) := dk_42 (by decide +kernel)
theorem dX12_end1_35 : decode cX12_end1 35 = .ok (.getfield 164, 3) := dk_180 (by decide +kernel)
theorem dX12_end1_38 : decode cX12_end1 38 = .ok (.aload_n 0, 1) := dk_42 (by decide +kernel)
theorem dX12_end1_39 : decode cX12_end1 39 = .ok (.getfield 577, 3) := dk_180 (by decide +kernel)
theorem dX12_end1_42 : decode cX12_end1 42 = .ok (.iaload, 1) := dk_46 (by decide +kernel)
theorem dX12_end1_43 : decode cX12_end1 43 = .ok (.putfield 583, 3) := dk_181 (by decide +kernel)
theorem dX12_end1_46 : decode cX12_end1 46 = .ok (.return_, 1) := dk_177 (by decide +kernel)
def wsRX12_end1 : List Cond := .code yX12_end1 cX12_end1 2 none :: ([.fieldLink RX12 577 "OptimaWorksModel" "deep" "I", .fieldLink RX12 570 "OptimaWorksModel" "within" "I", .fieldLink RX12 167 "OptimaWorksModel" "extra" "[I", .fieldLink RX12 580 "OptimaWorksModel" "result" "I", .fieldLink RX12 164 "OptimaWorksModel" "begins" "[I", .fieldLink RX12 583 "OptimaWorksModel" "resultFirst" "I"] ++ wsX120)
theorem iwsRX12_end1_in12 : ∀ w ∈ wsX120, w ∈ wsRX12_end1 := fun _ h => List.mem_cons_of_mem _ (List.mem_append_right _ h)
theorem gdwsRX12_end1 : wsRX12_end1.all goodWord = true := gdC rfl (gdA (by decide +kernel : ([.fieldLink RX12 577 "OptimaWorksModel" "deep" "I", .fieldLink RX12 570 "OptimaWorksModel" "within" "I", .fieldLink RX12 167 "OptimaWorksModel" "extra" "[I", .fieldLink RX12 580 "OptimaWorksModel" "result" "I", .fieldLink RX12 164 "OptimaWorksModel" "begins" "[I", .fieldLink RX12 583 "OptimaWorksModel" "resultFirst" "I"] : List Cond).all goodWord = true) gdwsX120)
theorem hm_r_X12_end1_0 : (.fieldLink RX12 577 "OptimaWorksModel" "deep" "I" : Cond) ∈ wsRX12_end1 := by decide +kernel
theorem hm_r_X12_end1_1 : (.fieldLink RX12 570 "OptimaWorksModel" "within" "I" : Cond) ∈ wsRX12_end1 := by decide +kernel
set_option maxHeartbeats 4000000 in
set_option maxRecDepth 100000 in
/-- end1(r) -/
theorem r_X12_end1 (l : Launch) (dC : Nat → ClassId) (dI : Nat → Nat → Nat) (a : Nat → Nat) (k : Nat → ClassId) (h0 : Nat) (vi : Nat → Int32) (vj : Nat → Int64) (vF : Nat → Nat → Int32) (vG : Nat → Nat → Int64) (rv : Int32) (dp : Nat) (hdp : vi 74 = nI (dp + 1)) (hdp9 : dp < 120) (sz : Nat) : Met l yX12_end1 wsRX12_end1 ({ frames := 0, cells := 0, slots := 0, locals := 0 }) (va_Pc [.ref h0, .int rv] (fun U => U.heap.size = sz ∧ va_P (dC, dI) vwCl (WR a k h0 vi vj vF vG) U.heap ∧ va_K (dC, dI) vwCl (tX12 k) U ∧ va_D (fun _ => True) (WR a k h0 vi vj vF vG))) (va_Qv (fun (u : Int32) => True) (fun (u : Int32) t => va_P (dC, dI) vwCl (WR a k h0 (fT (fT (fT (fT vi 74 (nI dp)) 75 u) 76 rv) 77 (vF 47 dp)) vj vF vG) t.heap ∧ va_D (va_A (WR a k h0 vi vj vF vG) sz) (WR a k h0 (fT (fT (fT (fT vi 74 (nI dp)) 75 u) 76 rv) 77 (vF 47 dp)) vj vF vG)) (va_A (WR a k h0 vi vj vF vG) sz)) 0 0 (va_A (WR a k h0 vi vj vF vG) sz) := by
  refine Met.ofW (cc := cX12_end1) (maxL := 2) (ret := none) (by decide) rfl ?_
  intro p e s m args below meth c s₁ B hml hv
  obtain ⟨rfl, hsz, hP, hK, hD0⟩ := hv
  have hx := B.exec
  have hb := B.bytes
  have hr := B.returns
  have hts := atoms_spec (ws := wsRX12_end1) B.pre
  have hown : s.vm.findClass RX12 = some m.cls := findClass_of_methodNamed B.named
  have hlocks := B.notSynchronized
  subst hsz
  have hD := hD0.self (sz := s.heap.size)
  generalize hAe : va_A (WR a k h0 vi vj vF vG) s.heap.size = A at hD ⊢
  have hA : ∀ q : Nat, s.heap.size ≤ q → A q := fun q h => by rw [← hAe]; exact Or.inr h
  have hS : va_S A s.heap s.heap [] := va_S.rf
  have hl := lv_entry ([.ref h0, .int rv]) (n := 2) (Nat.le_of_ble_eq_true rfl)
  rw [lg_entry_eq]
  generalize (lg_sl ([.ref h0, .int rv]) ++ List.replicate (2 - (lg_sl ([.ref h0, .int rv])).length) Slot.unset).toArray = ls at hl ⊢
  have hl : lv_has ls 2 [(0, .ref h0), (1, .int rv)] := hl
  refine lv_aload_n hx hb dX12_end1_0 rfl (lv_at hl 0 rfl) ?_
  refine lv_dup hx hb dX12_end1_1 rfl ?_
  refine va_get (D := (dC, dI)) (ci := 12) (v := .int (vi 74)) (C := RX12) (T := TX12) (N := 163) (fs := fM (vS a vi vj)) hx hb hts iwsRX12_end1_in12 hown hK hP 0 rfl rfl 74 (by decide) (hts _ hm_r_X12_end1_0) (fun _ h9 => h9) rfl dX12_end1_2 ?_
  refine lv_topi (fun y1 hy1 => ?_)
  obtain rfl : (nI (dp + 1)) = y1 := (hy1.trans (hdp)).symm
  refine lv_iconst (v := 1) hx hb dX12_end1_5 (by decide) ?_
  refine lv_isub hx hb dX12_end1_6 ?_
  refine lv_topi (fun y2 hy2 => ?_)
  obtain rfl : (nI ((dp + 1) - 1)) = y2 := (hy2.trans (pk_sub (a := (dp + 1)) (b := 1) (by omega))).symm
  refine va_put (D := (dC, dI)) (ci := 12) (v := .int (nI ((dp + 1) - 1))) (ty := .int) (C := RX12) (T := TX12) (N := 163) (fs := fM (vS a vi vj)) hx hb hts iwsRX12_end1_in12 tyX12 tyX12_ok nmX12 hown hK hP hD hS 0 rfl rfl 74 (by decide) (hts _ hm_r_X12_end1_0) (fun _ h9 => h9) rfl (by decide +kernel) rfl rfl (Nat.le_of_ble_eq_true rfl) dX12_end1_7 (fun H locs hP hD hS => ?_)
  have hP : va_P (dC, dI) vwCl (WR a k h0 (fT vi 74 (nI ((dp + 1) - 1))) vj vF vG) H := fz_w (WR_i 74 _ rfl) hP
  have hD : va_D A (WR a k h0 (fT vi 74 (nI ((dp + 1) - 1))) vj vF vG) := fz_wD (WR_i 74 _ rfl) hD
  refine lv_aload_n hx hb dX12_end1_10 rfl (lv_at hl 0 rfl) ?_
  refine lv_dup hx hb dX12_end1_11 rfl ?_
  refine va_get (D := (dC, dI)) (ci := 12) (v := .int (vi 75)) (C := RX12) (T := TX12) (N := 163) (fs := fM (vS a (fT vi 74 (nI ((dp + 1) - 1))) vj)) hx hb hts iwsRX12_end1_in12 hown hK hP 0 rfl rfl 75 (by decide) (hts _ hm_r_X12_end1_1) (fun _ h9 => h9) rfl dX12_end1_12 ?_
  refine lv_aload_n hx hb dX12_end1_15 rfl (lv_at hl 0 rfl) ?_
  refine va_get (D := (dC, dI)) (ci := 12) (v := .ref (a 48)) (C := RX12) (T := TX12) (N := 163) (fs := fM (vS a (fT vi 74 (nI ((dp + 1) - 1))) vj)) hx hb hts iwsRX12_end1_in12 hown hK hP 0 rfl rfl 73 (by decide) (hts (.fieldLink RX12 167 "OptimaWorksModel" "extra" "[I") (by decide +kernel)) (fun _ h9 => h9) rfl dX12_end1_16 ?_
  refine lv_aload_n hx hb dX12_end1_19 rfl (lv_at hl 0 rfl) ?_
  refine va_get (D := (dC, dI)) (ci := 12) (v := .int (nI ((dp + 1) - 1))) (C := RX12) (T := TX12) (N := 163) (fs := fM (vS a (fT vi 74 (nI ((dp + 1) - 1))) vj)) hx hb hts iwsRX12_end1_in12 hown hK hP 0 rfl rfl 74 (by decide) (hts _ hm_r_X12_end1_0) (fun _ h9 => h9) rfl dX12_end1_20 ?_
  refine va_iald (cA := k 48) (n := 120) (f := (vF 48)) hx hb hK hP 49 48 (WR_get 48 (by decide)) (TR_get 48 (by decide)) (vp_in_nI (show ((dp + 1) - 1) < 120 by omega) (by omega)) dX12_end1_23 ?_
  refine lv_topi (fun y3 hy3 => ?_)
  obtain rfl : ((vF 48) ((dp + 1) - 1)) = y3 := (hy3.trans (by rw [nI_clamp (by omega)])).symm
  refine lv_isub hx hb dX12_end1_24 ?_
  refine va_put (D := (dC, dI)) (ci := 12) (v := .int ((vi 75) - ((vF 48) ((dp + 1) - 1)))) (ty := .int) (C := RX12) (T := TX12) (N := 163) (fs := fM (vS a (fT vi 74 (nI ((dp + 1) - 1))) vj)) hx hb hts iwsRX12_end1_in12 tyX12 tyX12_ok nmX12 hown hK hP hD hS 0 rfl rfl 75 (by decide) (hts _ hm_r_X12_end1_1) (fun _ h9 => h9) rfl (by decide +kernel) rfl rfl (Nat.le_of_ble_eq_true rfl) dX12_end1_25 (fun H locs hP hD hS => ?_)
  have hP : va_P (dC, dI) vwCl (WR a k h0 (fT (fT vi 74 (nI ((dp + 1) - 1))) 75 ((vi 75) - ((vF 48) ((dp + 1) - 1)))) vj vF vG) H := fz_w (WR_i 75 _ rfl) hP
  have hD : va_D A (WR a k h0 (fT (fT vi 74 (nI ((dp + 1) - 1))) 75 ((vi 75) - ((vF 48) ((dp + 1) - 1)))) vj vF vG) := fz_wD (WR_i 75 _ rfl) hD
  refine lv_aload_n hx hb dX12_end1_28 rfl (lv_at hl 0 rfl) ?_
  refine lv_iload_n hx hb dX12_end1_29 rfl (lv_at hl 1 rfl) ?_
  refine va_put (D := (dC, dI)) (ci := 12) (v := .int rv) (ty := .int) (C := RX12) (T := TX12) (N := 163) (fs := fM (vS a (fT (fT vi 74 (nI ((dp + 1) - 1))) 75 ((vi 75) - ((vF 48) ((dp + 1) - 1)))) vj)) hx hb hts iwsRX12_end1_in12 tyX12 tyX12_ok nmX12 hown hK hP hD hS 0 rfl rfl 76 (by decide) (hts (.fieldLink RX12 580 "OptimaWorksModel" "result" "I") (by decide +kernel)) (fun _ h9 => h9) rfl (by decide +kernel) rfl rfl (Nat.le_of_ble_eq_true rfl) dX12_end1_30 (fun H locs hP hD hS => ?_)
  have hP : va_P (dC, dI) vwCl (WR a k h0 (fT (fT (fT vi 74 (nI ((dp + 1) - 1))) 75 ((vi 75) - ((vF 48) ((dp + 1) - 1)))) 76 rv) vj vF vG) H := fz_w (WR_i 76 _ rfl) hP
  have hD : va_D A (WR a k h0 (fT (fT (fT vi 74 (nI ((dp + 1) - 1))) 75 ((vi 75) - ((vF 48) ((dp + 1) - 1)))) 76 rv) vj vF vG) := fz_wD (WR_i 76 _ rfl) hD
  refine lv_aload_n hx hb dX12_end1_33 rfl (lv_at hl 0 rfl) ?_
  refine lv_aload_n hx hb dX12_end1_34 rfl (lv_at hl 0 rfl) ?_
  refine va_get (D := (dC, dI)) (ci := 12) (v := .ref (a 47)) (C := RX12) (T := TX12) (N := 163) (fs := fM (vS a (fT (fT (fT vi 74 (nI ((dp + 1) - 1))) 75 ((vi 75) - ((vF 48) ((dp + 1) - 1)))) 76 rv) vj)) hx hb hts iwsRX12_end1_in12 hown hK hP 0 rfl rfl 72 (by decide) (hts (.fieldLink RX12 164 "OptimaWorksModel" "begins" "[I") (by decide +kernel)) (fun _ h9 => h9) rfl dX12_end1_35 ?_
  refine lv_aload_n hx hb dX12_end1_38 rfl (lv_at hl 0 rfl) ?_
  refine va_get (D := (dC, dI)) (ci := 12) (v := .int (nI ((dp + 1) - 1))) (C := RX12) (T := TX12) (N := 163) (fs := fM (vS a (fT (fT (fT vi 74 (nI ((dp + 1) - 1))) 75 ((vi 75) - ((vF 48) ((dp + 1) - 1)))) 76 rv) vj)) hx hb hts iwsRX12_end1_in12 hown hK hP 0 rfl rfl 74 (by decide) (hts _ hm_r_X12_end1_0) (fun _ h9 => h9) rfl dX12_end1_39 ?_
  refine va_iald (cA := k 47) (n := 120) (f := (vF 47)) hx hb hK hP 48 47 (WR_get 47 (by decide)) (TR_get 47 (by decide)) (vp_in_nI (show ((dp + 1) - 1) < 120 by omega) (by omega)) dX12_end1_42 ?_
  refine lv_topi (fun y4 hy4 => ?_)
  obtain rfl : ((vF 47) ((dp + 1) - 1)) = y4 := (hy4.trans (by rw [nI_clamp (by omega)])).symm
  refine va_put (D := (dC, dI)) (ci := 12) (v := .int ((vF 47) ((dp + 1) - 1))) (ty := .int) (C := RX12) (T := TX12) (N := 163) (fs := fM (vS a (fT (fT (fT vi 74 (nI ((dp + 1) - 1))) 75 ((vi 75) - ((vF 48) ((dp + 1) - 1)))) 76 rv) vj)) hx hb hts iwsRX12_end1_in12 tyX12 tyX12_ok nmX12 hown hK hP hD hS 0 rfl rfl 77 (by decide) (hts (.fieldLink RX12 583 "OptimaWorksModel" "resultFirst" "I") (by decide +kernel)) (fun _ h9 => h9) rfl (by decide +kernel) rfl rfl (Nat.le_of_ble_eq_true rfl) dX12_end1_43 (fun H locs hP hD hS => ?_)
  have hP : va_P (dC, dI) vwCl (WR a k h0 (fT (fT (fT (fT vi 74 (nI ((dp + 1) - 1))) 75 ((vi 75) - ((vF 48) ((dp + 1) - 1)))) 76 rv) 77 ((vF 47) ((dp + 1) - 1))) vj vF vG) H := fz_w (WR_i 77 _ rfl) hP
  have hD : va_D A (WR a k h0 (fT (fT (fT (fT vi 74 (nI ((dp + 1) - 1))) 75 ((vi 75) - ((vF 48) ((dp + 1) - 1)))) 76 rv) 77 ((vF 47) ((dp + 1) - 1))) vj vF vG) := fz_wD (WR_i 77 _ rfl) hD
  refine W.widen (k := 0) (n := 0) (by decide +kernel) (by decide +kernel) ?_
  have e9 : fT (fT (fT (fT vi 74 (nI dp)) 75 ((vi 75) - ((vF 48) ((dp + 1) - 1)))) 76 rv) 77 (vF 47 dp) = fT (fT (fT (fT vi 74 (nI ((dp + 1) - 1))) 75 ((vi 75) - ((vF 48) ((dp + 1) - 1)))) 76 rv) 77 ((vF 47) ((dp + 1) - 1)) := Eq.trans (mv_3 rfl) (Eq.trans (congrArg (fT _ 74) (show nI dp = nI ((dp + 1) - 1) from (by first | with_reducible rfl | with_reducible assumption | (symm; with_reducible assumption) | rfl | assumption | (symm; assumption) | (subst_vars; rfl)))) (Eq.trans (mv_3 rfl) (Eq.trans (mv_3 rfl) (Eq.trans (mv_3 rfl) (congrArg (fT _ 77) (show vF 47 dp = (vF 47) ((dp + 1) - 1) from (by first | with_reducible rfl | with_reducible assumption | (symm; with_reducible assumption) | rfl | assumption | (symm; assumption) | (subst_vars; rfl))))))))
  have hP := wr_Pi e9 hP
  have hD := wr_Di e9 hD
  clear e9
  exact W.vret hx hb hr (fun t9_ ht hW => ⟨⟨((vi 75) - ((vF 48) ((dp + 1) - 1))), rfl, trivial, by rw [ht]; exact hP, hD⟩, hS.F ht⟩) hS.2.2 dX12_end1_46
theorem dX12_member_0 : decode cX12_member 0 = .ok (.aload_n 0, 1) := dk_42 (by decide +kernel)
theorem dX12_member_1 : decode cX12_member 1 = .ok (.getfield 515, 3) := dk_180 (by decide +kernel)
theorem dX12_member_4 : decode cX12_member 4 = .ok (.ifCond .le 5, 3) := dk_158 (by decide +kernel)
theorem dX12_member_9 : decode cX12_member 9 = .ok (.aload_n 0, 1) := dk_42 (by decide +kernel)
theorem dX12_member_10 : decode cX12_member 10 = .ok (.getfield 659, 3) := dk_180 (by decide +kernel)
theorem dX12_member_13 : decode cX12_member 13 = .ok (.iconst 1, 1) := dk_4 (by decide +kernel)
theorem dX12_member_14 : decode cX12_member 14 = .ok (.isub, 1) := dk_100 (by decide +kernel)
theorem dX12_member_15 : decode cX12_member 15 = .ok (.istore_n 3, 1) := dk_62 (by decide +kernel)
theorem dX12_member_16 : decode cX12_member 16 = .ok (.aload_n 0, 1) := dk_42 (by decide +kernel)
theorem dX12_member_17 : decode cX12_member 17 = .ok (.dup, 1) := dk_89 (by decide +kernel)
theorem dX12_member_18 : decode cX12_member 18 = .ok (.getfield 659, 3) := dk_180 (by decide +kernel)
theorem dX12_member_21 : decode cX12_member 21 = .ok (.iconst 1, 1) := dk_4 (by decide +kernel)
theorem dX12_member_22 : decode cX12_member 22 = .ok (.isub, 1) := dk_100 (by decide +kernel)
theorem dX12_member_23 : decode cX12_member 23 = .ok (.putfield 659, 3) := dk_181 (by decide +kernel)
theorem dX12_member_26 : decode cX12_member 26 = .ok (.aload_n 0, 1) := dk_42 (by decide +kernel)
theorem dX12_member_27 : decode cX12_member 27 = .ok (.iload_n 3, 1) := dk_29 (by decide +kernel)
theorem dX12_member_28 : decode cX12_member 28 = .ok (.invokevirtual 638, 3) := dk_182 (by decide +kernel)
theorem dX12_member_31 : decode cX12_member 31 = .ok (.ifCond .eq 13, 3) := dk_153 (by decide +kernel)
theorem dX12_member_34 : decode cX12_member 34 = .ok (.aload_n 0, 1) := dk_42 (by decide +kernel)
theorem dX12_member_35 : decode cX12_member 35 = .ok (.bipush 7, 2) := dk_16 (by decide +kernel)
theorem dX12_member_37 : decode cX12_member 37 = .ok (.iload_n 2, 1) := dk_28 (by decide +kernel)
theorem dX12_member_38 : decode cX12_member 38 = .ok (.invokevirtual 518, 3) := dk_182 (by decide +kernel)
theorem dX12_member_41 : decode cX12_member 41 = .ok (.goto 66, 3) := dk_167 (by decide +kernel)
theorem dX12_member_44 : decode cX12_member 44 = .ok (.aload_n 0, 1) := dk_42 (by decide +kernel)
theorem dX12_member_45 : decode cX12_member 45 = .ok (.getfield 173, 3) := dk_180 (by decide +kernel)
theorem dX12_member_48 : decode cX12_member 48 = .ok (.bipush 9, 2) := dk_16 (by decide +kernel)
theorem dX12_member_50 : decode cX12_member 50 = .ok (.iload_n 3, 1) := dk_29 (by decide +kernel)
theorem dX12_member_51 : decode cX12_member 51 = .ok (.imul, 1) := dk_104 (by decide +kernel)
theorem dX12_member_52 : decode cX12_member 52 = .ok (.iaload, 1) := dk_46 (by decide +kernel)
theorem dX12_member_53 : decode cX12_member 53 = .ok (.iconst 1, 1) := dk_4 (by decide +kernel)
theorem dX12_member_54 : decode cX12_member 54 = .ok (.if_icmp .ne 46, 3) := dk_160 (by decide +kernel)
theorem dX12_member_57 : decode cX12_member 57 = .ok (.aload_n 0, 1) := dk_42 (by decide +kernel)
theorem dX12_member_58 : decode cX12_member 58 = .ok (.getfield 170, 3) := dk_180 (by decide +kernel)
theorem dX12_member_61 : decode cX12_member 61 = .ok (.bipush 9, 2) := dk_16 (by decide +kernel)
theorem dX12_member_63 : decode cX12_member 63 = .ok (.iload_n 3, 1) := dk_29 (by decide +kernel)
theorem dX12_member_64 : decode cX12_member 64 = .ok (.imul, 1) := dk_104 (by decide +kernel)
theorem dX12_member_65 : decode cX12_member 65 = .ok (.iaload, 1) := dk_46 (by decide +kernel)
theorem dX12_member_66 : decode cX12_member 66 = .ok (.aload_n 0, 1) := dk_42 (by decide +kernel)
theorem dX12_member_67 : decode cX12_member 67 = .ok (.getfield 71, 3) := dk_180 (by decide +kernel)
theorem dX12_member_70 : decode cX12_member 70 = .ok (.iload_n 1, 1) := dk_27 (by decide +kernel)
theorem dX12_member_71 : decode cX12_member 71 = .ok (.iaload, 1) := dk_46 (by decide +kernel)
theorem dX12_member_72 : decode cX12_member 72 = .ok (.if_icmp .lt 28, 3) := dk_161 (by decide +kernel)
theorem dX12_member_75 : decode cX12_member 75 = .ok (.aload_n 0, 1) := dk_42 (by decide +kernel)
theorem dX12_member_76 : decode cX12_member 76 = .ok (.getfield 170, 3) := dk_180 (by decide +kernel)
theorem dX12_member_79 : decode cX12_member 79 = .ok (.bipush 9, 2) := dk_16 (by decide +kernel)
theorem dX12_member_81 : decode cX12_member 81 = .ok (.iload_n 3, 1) := dk_29 (by decide +kernel)
theorem dX12_member_82 : decode cX12_member 82 = .ok (.imul, 1) := dk_104 (by decide +kernel)
theorem dX12_member_83 : decode cX12_member 83 = .ok (.iaload, 1) := dk_46 (by decide +kernel)
theorem dX12_member_84 : decode cX12_member 84 = .ok (.aload_n 0, 1) := dk_42 (by decide +kernel)
theorem dX12_member_85 : decode cX12_member 85 = .ok (.getfield 71, 3) := dk_180 (by decide +kernel)
theorem dX12_member_88 : decode cX12_member 88 = .ok (.iload_n 1, 1) := dk_27 (by decide +kernel)
theorem dX12_member_89 : decode cX12_member 89 = .ok (.iaload, 1) := dk_46 (by decide +kernel)
theorem dX12_member_90 : decode cX12_member 90 = .ok (.aload_n 0, 1) := dk_42 (by decide +kernel)
theorem dX12_member_91 : decode cX12_member 91 = .ok (.getfield 74, 3) := dk_180 (by decide +kernel)
theorem dX12_member_94 : decode cX12_member 94 = .ok (.iload_n 1, 1) := dk_27 (by decide +kernel)
theorem dX12_member_95 : decode cX12_member 95 = .ok (.iaload, 1) := dk_46 (by decide +kernel)
theorem dX12_member_96 : decode cX12_member 96 = .ok (.iadd, 1) := dk_96 (by decide +kernel)
theorem dX12_member_97 : decode cX12_member 97 = .ok (.if_icmp .lt 10, 3) := dk_161 (by decide +kernel)
theorem dX12_member_100 : decode cX12_member 100 = .ok (.aload_n 0, 1) := dk_42 (by decide +kernel)
theorem dX12_member_101 : decode cX12_member 101 = .ok (.bipush 8, 2) := dk_16 (by decide +kernel)
theorem dX12_member_103 : decode cX12_member 103 = .ok (.iload_n 2, 1) := dk_28 (by decide +kernel)
theorem dX12_member_104 : decode cX12_member 104 = .ok (.invokevirtual 518, 3) := dk_182 (by decide +kernel)
theorem dX12_member_107 : decode cX12_member 107 = .ok (.aload_n 0, 1) := dk_42 (by decide +kernel)
theorem dX12_member_108 : decode cX12_member 108 = .ok (.getfield 515, 3) := dk_180 (by decide +kernel)
theorem dX12_member_111 : decode cX12_member 111 = .ok (.ifCond .le 7, 3) := dk_158 (by decide +kernel)
theorem dX12_member_114 : decode cX12_member 114 = .ok (.iconst 0, 1) := dk_3 (by decide +kernel)
theorem dX12_member_115 : decode cX12_member 115 = .ok (.goto 19, 3) := dk_167 (by decide +kernel)
theorem dX12_member_118 : decode cX12_member 118 = .ok (.aload_n 0, 1) := dk_42 (by decide +kernel)
theorem dX12_member_119 : decode cX12_member 119 = .ok (.getfield 170, 3) := dk_180 (by decide +kernel)
theorem dX12_member_122 : decode cX12_member 122 = .ok (.bipush 9, 2) := dk_16 (by decide +kernel)
theorem dX12_member_124 : decode cX12_member 124 = .ok (.iload_n 3, 1) := dk_29 (by decide +kernel)
theorem dX12_member_125 : decode cX12_member 125 = .ok (.imul, 1) := dk_104 (by decide +kernel)
theorem dX12_member_126 : decode cX12_member 126 = .ok (.iaload, 1) := dk_46 (by decide +kernel)
theorem dX12_member_127 : decode cX12_member 127 = .ok (.aload_n 0, 1) := dk_42 (by decide +kernel)
theorem dX12_member_128 : decode cX12_member 128 = .ok (.getfield 71, 3) := dk_180 (by decide +kernel)
theorem dX12_member_131 : decode cX12_member 131 = .ok (.iload_n 1, 1) := dk_27 (by decide +kernel)
theorem dX12_member_132 : decode cX12_member 132 = .ok (.iaload, 1) := dk_46 (by decide +kernel)
theorem dX12_member_133 : decode cX12_member 133 = .ok (.isub, 1) := dk_100 (by decide +kernel)
theorem dX12_member_134 : decode cX12_member 134 = .ok (.ireturn, 1) := dk_172 (by decide +kernel)
def wsRX12_member : List Cond := .code yX12_member cX12_member 4 (some .int) :: ([.fieldLink RX12 515 "OptimaWorksModel" "stop" "I", .fieldLink RX12 659 "OptimaWorksModel" "piled" "I", .fieldLink RX12 173 "OptimaWorksModel" "under" "[I", .fieldLink RX12 170 "OptimaWorksModel" "top" "[I", .fieldLink RX12 71 "OptimaWorksModel" "setLow" "[I", .fieldLink RX12 74 "OptimaWorksModel" "setMany" "[I"] ++ wsX120 ++ (wsV RX12 638 RX12 yX12_hasVariables wsRX12_hasVariables) ++ (wsV RX12 518 RX12 yX12_faultAt wsRX12_faultAt))
theorem iwsRX12_member_in12 : ∀ w ∈ wsX120, w ∈ wsRX12_member := fun _ h => List.mem_cons_of_mem _ (List.mem_append_left _ (List.mem_append_left _ (List.mem_append_right _ h)))
theorem gwsRX12_member_0 : GoodIn wsRX12_member (wsV RX12 638 RX12 yX12_hasVariables wsRX12_hasVariables) := goodIn_sub (fun _ h => List.mem_cons_of_mem _ (List.mem_append_left _ (List.mem_append_right _ h))) (gdV (by decide +kernel) gdwsRX12_hasVariables)
theorem gwsRX12_member_1 : GoodIn wsRX12_member (wsV RX12 518 RX12 yX12_faultAt wsRX12_faultAt) := goodIn_sub (fun _ h => List.mem_cons_of_mem _ (List.mem_append_right _ h)) (gdV (by decide +kernel) gdwsRX12_faultAt)
theorem gdwsRX12_member : wsRX12_member.all goodWord = true := gdC rfl (gdA (gdA (gdA (by decide +kernel : ([.fieldLink RX12 515 "OptimaWorksModel" "stop" "I", .fieldLink RX12 659 "OptimaWorksModel" "piled" "I", .fieldLink RX12 173 "OptimaWorksModel" "under" "[I", .fieldLink RX12 170 "OptimaWorksModel" "top" "[I", .fieldLink RX12 71 "OptimaWorksModel" "setLow" "[I", .fieldLink RX12 74 "OptimaWorksModel" "setMany" "[I"] : List Cond).all goodWord = true) gdwsX120) (gdV (by decide +kernel) gdwsRX12_hasVariables)) (gdV (by decide +kernel) gdwsRX12_faultAt))
theorem hm_r_X12_member_0 : (.fieldLink RX12 515 "OptimaWorksModel" "stop" "I" : Cond) ∈ wsRX12_member := by decide +kernel
theorem hm_r_X12_member_1 : (.fieldLink RX12 659 "OptimaWorksModel" "piled" "I" : Cond) ∈ wsRX12_member := by decide +kernel
theorem hm_r_X12_member_2 : (.fieldLink RX12 170 "OptimaWorksModel" "top" "[I" : Cond) ∈ wsRX12_member := by decide +kernel
theorem hm_r_X12_member_3 : (.fieldLink RX12 71 "OptimaWorksModel" "setLow" "[I" : Cond) ∈ wsRX12_member := by decide +kernel
set_option maxHeartbeats 4000000 in
set_option maxRecDepth 100000 in
/-- member(set, p) -/
theorem r_X12_member (l : Launch) (dC : Nat → ClassId) (dI : Nat → Nat → Nat) (a : Nat → Nat) (k : Nat → ClassId) (h0 : Nat) (vi : Nat → Int32) (vj : Nat → Int64) (vF : Nat → Nat → Int32) (vG : Nat → Nat → Int64) (oN : Nat) (pI : Int32) (se : Nat) (mN : Nat) (pi : Nat) (hse44 : se ≤ 44) (hSe : SeO (vF 16) (vF 17) se) (hoN : oN < se) (emN : vF 17 oN = nI mN) (hmN : 1 ≤ mN ∧ mN ≤ 12) (hpi : vi 81 = nI (pi + 1)) (hpi9 : pi < 100) (hRw : RowU (vF 49) (vF 50) pi) (hst0 : 0 ≤ (vi 21).toInt) (hst1 : (vi 21).toInt ≤ 0) (sz : Nat) : Met l yX12_member wsRX12_member ({ frames := 1, cells := 0, slots := 0, locals := 23 }) (va_Pc [.ref h0, .int (nI oN), .int pI] (fun U => U.heap.size = sz ∧ va_P (dC, dI) vwCl (WR a k h0 vi vj vF vG) U.heap ∧ va_K (dC, dI) vwCl (tX12 k) U ∧ va_D (fun _ => True) (WR a k h0 vi vj vF vG))) (va_Qi (fun (r : Int32) (u : (Int32) × (Int32)) => (0 ≤ ((u.1)).toInt) ∧ ((0 < ((u.1)).toInt) ∨ ((u.1) = vi 21 ∧ ∃ k, k < 12 ∧ (r) = nI k ∧ vF 17 oN = nI mN ∧ k < mN))) (fun (u : (Int32) × (Int32)) t => va_P (dC, dI) vwCl (WR a k h0 (fT (fT (fT vi 81 (nI pi)) 21 (u.1)) 22 (u.2)) vj vF vG) t.heap ∧ va_D (va_A (WR a k h0 vi vj vF vG) sz) (WR a k h0 (fT (fT (fT vi 81 (nI pi)) 21 (u.1)) 22 (u.2)) vj vF vG)) (va_A (WR a k h0 vi vj vF vG) sz)) 0 0 (va_A (WR a k h0 vi vj vF vG) sz) := by
  refine Met.ofW (cc := cX12_member) (maxL := 4) (ret := (some .int)) (by decide) rfl ?_
  intro p e s m args below meth c s₁ B hml hv
  obtain ⟨rfl, hsz, hP, hK, hD0⟩ := hv
  have hx := B.exec
  have hb := B.bytes
  have hr := B.returns
  have hts := atoms_spec (ws := wsRX12_member) B.pre
  have hown : s.vm.findClass RX12 = some m.cls := findClass_of_methodNamed B.named
  have hlocks := B.notSynchronized
  subst hsz
  have hD := hD0.self (sz := s.heap.size)
  generalize hAe : va_A (WR a k h0 vi vj vF vG) s.heap.size = A at hD ⊢
  have hA : ∀ q : Nat, s.heap.size ≤ q → A q := fun q h => by rw [← hAe]; exact Or.inr h
  have hS : va_S A s.heap s.heap [] := va_S.rf
  have hl := lv_entry ([.ref h0, .int (nI oN), .int pI]) (n := 4) (Nat.le_of_ble_eq_true rfl)
  rw [lg_entry_eq]
  generalize (lg_sl ([.ref h0, .int (nI oN), .int pI]) ++ List.replicate (4 - (lg_sl ([.ref h0, .int (nI oN), .int pI])).length) Slot.unset).toArray = ls at hl ⊢
  have hl : lv_has ls 4 [(0, .ref h0), (1, .int (nI oN)), (2, .int pI)] := hl
  have hl1 := (hSe oN hoN).2
  refine lv_aload_n hx hb dX12_member_0 rfl (lv_at hl 0 rfl) ?_
  refine va_get (D := (dC, dI)) (ci := 12) (v := .int (vi 21)) (C := RX12) (T := TX12) (N := 163) (fs := fM (vS a vi vj)) hx hb hts iwsRX12_member_in12 hown hK hP 0 rfl rfl 21 (by decide) (hts _ hm_r_X12_member_0) (fun _ h9 => h9) rfl dX12_member_1 ?_
  refine lv_if_le (tgt := 9) hx hb dX12_member_4 (by decide) (fun c_4 => ?_) (fun c9 => False.elim (by have t9 : ¬ ((vi 21)).toInt ≤ 0 := toI_nle c9 rfl (by decide); omega))
  have t_4 : ((vi 21)).toInt ≤ 0 := toI_le c_4 rfl (by decide)
  refine lv_aload_n hx hb dX12_member_9 rfl (lv_at hl 0 rfl) ?_
  refine va_get (D := (dC, dI)) (ci := 12) (v := .int (vi 81)) (C := RX12) (T := TX12) (N := 163) (fs := fM (vS a vi vj)) hx hb hts iwsRX12_member_in12 hown hK hP 0 rfl rfl 81 (by decide) (hts _ hm_r_X12_member_1) (fun _ h9 => h9) rfl dX12_member_10 ?_
  refine lv_topi (fun y1 hy1 => ?_)
  obtain rfl : (nI (pi + 1)) = y1 := (hy1.trans (hpi)).symm
  refine lv_iconst (v := 1) hx hb dX12_member_13 (by decide) ?_
  refine lv_isub hx hb dX12_member_14 ?_
  refine lv_topi (fun y2 hy2 => ?_)
  obtain rfl : (nI pi) = y2 := (hy2.trans (pk_sub (a := pi + 1) (b := 1) (by omega))).symm
  refine lv_istore_n hx hb dX12_member_15 rfl hl (by decide) rfl (fun ls (hl : lv_has ls _ ([(3, .int (nI pi)), (0, .ref h0), (1, .int (nI oN)), (2, .int pI)])) => ?_)
  refine lv_aload_n hx hb dX12_member_16 rfl (lv_at hl 1 rfl) ?_
  refine lv_dup hx hb dX12_member_17 rfl ?_
  refine va_get (D := (dC, dI)) (ci := 12) (v := .int (vi 81)) (C := RX12) (T := TX12) (N := 163) (fs := fM (vS a vi vj)) hx hb hts iwsRX12_member_in12 hown hK hP 0 rfl rfl 81 (by decide) (hts _ hm_r_X12_member_1) (fun _ h9 => h9) rfl dX12_member_18 ?_
  refine lv_topi (fun y3 hy3 => ?_)
  obtain rfl : (nI (pi + 1)) = y3 := (hy3.trans (hpi)).symm
  refine lv_iconst (v := 1) hx hb dX12_member_21 (by decide) ?_
  refine lv_isub hx hb dX12_member_22 ?_
  refine lv_topi (fun y4 hy4 => ?_)
  obtain rfl : (nI pi) = y4 := (hy4.trans (pk_sub (a := pi + 1) (b := 1) (by omega))).symm
  refine va_put (D := (dC, dI)) (ci := 12) (v := .int (nI pi)) (ty := .int) (C := RX12) (T := TX12) (N := 163) (fs := fM (vS a vi vj)) hx hb hts iwsRX12_member_in12 tyX12 tyX12_ok nmX12 hown hK hP hD hS 0 rfl rfl 81 (by decide) (hts _ hm_r_X12_member_1) (fun _ h9 => h9) rfl (by decide +kernel) rfl rfl (Nat.le_of_ble_eq_true rfl) dX12_member_23 (fun H locs hP hD hS => ?_)
  have hP : va_P (dC, dI) vwCl (WR a k h0 (fT vi 81 (nI pi)) vj vF vG) H := fz_w (WR_i 81 _ rfl) hP
  have hD : va_D A (WR a k h0 (fT vi 81 (nI pi)) vj vF vG) := fz_wD (WR_i 81 _ rfl) hD
  refine lv_aload_n hx hb dX12_member_26 rfl (lv_at hl 1 rfl) ?_
  refine lv_iload_n hx hb dX12_member_27 rfl (lv_at hl 0 rfl) ?_
  have hFc := allFree hD hS hA
  refine va_calli (va_runV (As := [.int (nI pi)]) (rest := []) ⟨hx, hb, hml, hown, hts⟩ (r_X12_hasVariables l dC dI a k h0 (fT vi 81 (nI pi)) vj vF vG pi (by first | with_reducible assumption | decide | omega | rfl | assumption) H.size) (cwV 1 hts gwsRX12_member_0 rfl rfl rfl hd_yX12_hasVariables_RX12 (by decide +kernel)) (fz_pre (va_recv hK hP (ci := 12) (q0 := 0) rfl rfl) hP hK hD) rfl rfl hl.1 rfl (lv_room (Nat.le_of_ble_eq_true rfl)) dX12_member_28 (by decide +kernel)) hS (fun q _ h => hFc q h) hFc (fun r28 u t9_ H locs ht hvm hw9 hB9 hz1 hk1 hS => ?_)
  have hP : va_P (dC, dI) vwCl (WR a k h0 (fT vi 81 (nI pi)) vj vF vG) H := fz_P ht hB9.1
  have hD := fz_sd hP (hB9.2.weaken (fun _ q _ h => hFc q.1 h)) rfl
  have f28_0 := hw9
  try dsimp only at f28_0
  have f28_0 : ((r28) = 0 ∧ ∀ q, 1 ≤ q → q < 9 → (vF 49) (9 * pi + q) = 0) ∨ ((r28) = 1 ∧ ∃ q, 1 ≤ q ∧ q < 9 ∧ (vF 49) (9 * pi + q) ≠ 0) := f28_0
  refine lv_if_eq (tgt := 44) hx hb dX12_member_31 (by decide) (fun c_31 => ?_) (fun c_31 => ?_)
  · have t_31 : (r28).toInt = 0 := toI_eq c_31 rfl (by decide)
    have hr0 := hRw 0 (by omega)
    simp only [Nat.add_zero] at hr0
    refine lv_aload_n hx hb dX12_member_44 rfl (lv_at hl 1 rfl) ?_
    refine va_get (D := (dC, dI)) (ci := 12) (v := .ref (a 50)) (C := RX12) (T := TX12) (N := 163) (fs := fM (vS a (fT vi 81 (nI pi)) vj)) hx hb hts iwsRX12_member_in12 hown hK hP 0 rfl rfl 79 (by decide) (hts (.fieldLink RX12 173 "OptimaWorksModel" "under" "[I") (by decide +kernel)) (fun _ h9 => h9) rfl dX12_member_45 ?_
    refine lv_bipush (v := 9) hx hb dX12_member_48 (by decide) ?_
    refine lv_iload_n hx hb dX12_member_50 rfl (lv_at hl 0 rfl) ?_
    refine lv_imul hx hb dX12_member_51 ?_
    refine lv_topi (fun y5 hy5 => ?_)
    obtain rfl : (nI (9 * pi)) = y5 := (hy5.trans (pk_mul 9 pi)).symm
    refine va_iald (cA := k 50) (n := 900) (f := (vF 50)) hx hb hK hP 51 50 (WR_get 50 (by decide)) (TR_get 50 (by decide)) (vp_in_nI (show (9 * pi) < 900 by omega) (by omega)) dX12_member_52 ?_
    refine lv_topi (fun y6 hy6 => ?_)
    obtain rfl : ((vF 50) (9 * pi)) = y6 := (hy6.trans (by rw [nI_clamp (by omega)])).symm
    refine lv_iconst (v := 1) hx hb dX12_member_53 (by decide) ?_
    refine lv_icmp_ne (tgt := 100) hx hb dX12_member_54 (by decide) (fun c_54 => ?_) (fun c_54 => ?_)
    · have t_54 : (((vF 50) (9 * pi))).toInt ≠ 1 := toI_ne c_54 rfl (by decide)
      refine lv_aload_n hx hb dX12_member_100 rfl (lv_at hl 1 rfl) ?_
      refine lv_bipush (v := 8) hx hb dX12_member_101 (by decide) ?_
      refine lv_iload_n hx hb dX12_member_103 rfl (lv_at hl 3 rfl) ?_
      have hFc := allFree hD hS hA
      refine va_callv (va_runV (As := [.int 8, .int pI]) (rest := []) ⟨hx, hb, hml, hown, hts⟩ (r_X12_faultAt l dC dI a k h0 (fT vi 81 (nI pi)) vj vF vG 8 pI (by first | with_reducible assumption | decide | omega | rfl | assumption) H.size) (cwV 2 hts gwsRX12_member_1 rfl rfl rfl hd_yX12_faultAt_RX12 (by decide +kernel)) (fz_pre (va_recv hK hP (ci := 12) (q0 := 0) rfl rfl) hP hK hD) rfl rfl hl.1 rfl (lv_room (Nat.le_of_ble_eq_true rfl)) dX12_member_104 (by decide +kernel)) hS (fun q _ h => hFc q h) hFc (fun u t9_ H locs ht hvm hw9 hB9 hz1 hk1 hS => ?_)
      revert u hw9 hB9
      refine fz_p2 ?_
      intro s2104 p2104 hw9 hB9
      try dsimp only at hw9 hB9
      have hP : va_P (dC, dI) vwCl (WR a k h0 (fT (fT (fT vi 81 (nI pi)) 21 s2104) 22 p2104) vj vF vG) H := fz_P ht hB9.1
      have hD := fz_sd hP (hB9.2.weaken (fun _ q _ h => hFc q.1 h)) rfl
      revert hw9
      refine fz_a2 ?_
      intro f104_0 f104_1
      have f104_0 : (0 < (vi 21).toInt ∧ s2104 = (vi 21) ∧ p2104 = (vi 22)) ∨ (¬ 0 < (vi 21).toInt ∧ s2104 = 8 ∧ p2104 = pI) := f104_0
      refine lv_aload_n hx hb dX12_member_107 rfl (lv_at hl 1 rfl) ?_
      refine va_get (D := (dC, dI)) (ci := 12) (v := .int s2104) (C := RX12) (T := TX12) (N := 163) (fs := fM (vS a (fT (fT (fT vi 81 (nI pi)) 21 s2104) 22 p2104) vj)) hx hb hts iwsRX12_member_in12 hown hK hP 0 rfl rfl 21 (by decide) (hts _ hm_r_X12_member_0) (fun _ h9 => h9) rfl dX12_member_108 ?_
      refine lv_if_le (tgt := 118) hx hb dX12_member_111 (by decide) (fun c9 => False.elim (by have t9 : (s2104).toInt ≤ 0 := toI_le c9 rfl (by decide); omega)) (fun c_111 => ?_)
      have t_111 : ¬ (s2104).toInt ≤ 0 := toI_nle c_111 rfl (by decide)
      refine lv_iconst (v := 0) hx hb dX12_member_114 (by decide) ?_
      refine lv_goto (tgt := 134) hx hb dX12_member_115 (by decide) ?_
      refine W.widen (k := 0) (n := 0) (by decide +kernel) (by decide +kernel) ?_
      exact W.iret (v := 0) hx hb hr (fun t9_ ht hW => ⟨⟨0, (s2104, p2104), rfl, by (try dsimp only); exact ⟨by (have h9 := f104_1); omega, Or.inl f104_1⟩, by rw [ht]; exact hP, hD⟩, hS.F ht⟩) hS.2.2 dX12_member_134
    · have t_54 : (((vF 50) (9 * pi))).toInt = 1 := toI_nne c_54 rfl (by decide)
      refine lv_aload_n hx hb dX12_member_57 rfl (lv_at hl 1 rfl) ?_
      refine va_get (D := (dC, dI)) (ci := 12) (v := .ref (a 49)) (C := RX12) (T := TX12) (N := 163) (fs := fM (vS a (fT vi 81 (nI pi)) vj)) hx hb hts iwsRX12_member_in12 hown hK hP 0 rfl rfl 78 (by decide) (hts _ hm_r_X12_member_2) (fun _ h9 => h9) rfl dX12_member_58 ?_
      refine lv_bipush (v := 9) hx hb dX12_member_61 (by decide) ?_
      refine lv_iload_n hx hb dX12_member_63 rfl (lv_at hl 0 rfl) ?_
      refine lv_imul hx hb dX12_member_64 ?_
      refine lv_topi (fun y7 hy7 => ?_)
      obtain rfl : (nI (9 * pi)) = y7 := (hy7.trans (pk_mul 9 pi)).symm
      refine va_iald (cA := k 49) (n := 900) (f := (vF 49)) hx hb hK hP 50 49 (WR_get 49 (by decide)) (TR_get 49 (by decide)) (vp_in_nI (show (9 * pi) < 900 by omega) (by omega)) dX12_member_65 ?_
      refine lv_topi (fun y8 hy8 => ?_)
      obtain rfl : ((vF 49) (9 * pi)) = y8 := (hy8.trans (by rw [nI_clamp (by omega)])).symm
      refine lv_aload_n hx hb dX12_member_66 rfl (lv_at hl 1 rfl) ?_
      refine va_get (D := (dC, dI)) (ci := 12) (v := .ref (a 16)) (C := RX12) (T := TX12) (N := 163) (fs := fM (vS a (fT vi 81 (nI pi)) vj)) hx hb hts iwsRX12_member_in12 hown hK hP 0 rfl rfl 39 (by decide) (hts _ hm_r_X12_member_3) (fun _ h9 => h9) rfl dX12_member_67 ?_
      refine lv_iload_n hx hb dX12_member_70 rfl (lv_at hl 2 rfl) ?_
      refine va_iald (cA := k 16) (n := 44) (f := (vF 16)) hx hb hK hP 17 16 (WR_get 16 (by decide)) (TR_get 16 (by decide)) (vp_in_nI (show oN < 44 by omega) (by omega)) dX12_member_71 ?_
      refine lv_topi (fun y9 hy9 => ?_)
      obtain rfl : ((vF 16) oN) = y9 := (hy9.trans (by rw [nI_clamp (by omega)])).symm
      refine lv_icmp_lt (tgt := 100) hx hb dX12_member_72 (by decide) (fun c_72 => ?_) (fun c_72 => ?_)
      · have t_72 : (((vF 49) (9 * pi))).toInt < (((vF 16) oN)).toInt := toI_lt c_72 rfl rfl
        refine lv_aload_n hx hb dX12_member_100 rfl (lv_at hl 1 rfl) ?_
        refine lv_bipush (v := 8) hx hb dX12_member_101 (by decide) ?_
        refine lv_iload_n hx hb dX12_member_103 rfl (lv_at hl 3 rfl) ?_
        have hFc := allFree hD hS hA
        refine va_callv (va_runV (As := [.int 8, .int pI]) (rest := []) ⟨hx, hb, hml, hown, hts⟩ (r_X12_faultAt l dC dI a k h0 (fT vi 81 (nI pi)) vj vF vG 8 pI (by first | with_reducible assumption | decide | omega | rfl | assumption) H.size) (cwV 2 hts gwsRX12_member_1 rfl rfl rfl hd_yX12_faultAt_RX12 (by decide +kernel)) (fz_pre (va_recv hK hP (ci := 12) (q0 := 0) rfl rfl) hP hK hD) rfl rfl hl.1 rfl (lv_room (Nat.le_of_ble_eq_true rfl)) dX12_member_104 (by decide +kernel)) hS (fun q _ h => hFc q h) hFc (fun u t9_ H locs ht hvm hw9 hB9 hz1 hk1 hS => ?_)
        revert u hw9 hB9
        refine fz_p2 ?_
        intro s2104_1 p2104_1 hw9 hB9
        try dsimp only at hw9 hB9
        have hP : va_P (dC, dI) vwCl (WR a k h0 (fT (fT (fT vi 81 (nI pi)) 21 s2104_1) 22 p2104_1) vj vF vG) H := fz_P ht hB9.1
        have hD := fz_sd hP (hB9.2.weaken (fun _ q _ h => hFc q.1 h)) rfl
        revert hw9
        refine fz_a2 ?_
        intro f104_1_0 f104_1_1
        have f104_1_0 : (0 < (vi 21).toInt ∧ s2104_1 = (vi 21) ∧ p2104_1 = (vi 22)) ∨ (¬ 0 < (vi 21).toInt ∧ s2104_1 = 8 ∧ p2104_1 = pI) := f104_1_0
        refine lv_aload_n hx hb dX12_member_107 rfl (lv_at hl 1 rfl) ?_
        refine va_get (D := (dC, dI)) (ci := 12) (v := .int s2104_1) (C := RX12) (T := TX12) (N := 163) (fs := fM (vS a (fT (fT (fT vi 81 (nI pi)) 21 s2104_1) 22 p2104_1) vj)) hx hb hts iwsRX12_member_in12 hown hK hP 0 rfl rfl 21 (by decide) (hts _ hm_r_X12_member_0) (fun _ h9 => h9) rfl dX12_member_108 ?_
        refine lv_if_le (tgt := 118) hx hb dX12_member_111 (by decide) (fun c9 => False.elim (by have t9 : (s2104_1).toInt ≤ 0 := toI_le c9 rfl (by decide); omega)) (fun c_111 => ?_)
        have t_111 : ¬ (s2104_1).toInt ≤ 0 := toI_nle c_111 rfl (by decide)
        refine lv_iconst (v := 0) hx hb dX12_member_114 (by decide) ?_
        refine lv_goto (tgt := 134) hx hb dX12_member_115 (by decide) ?_
        refine W.widen (k := 0) (n := 0) (by decide +kernel) (by decide +kernel) ?_
        exact W.iret (v := 0) hx hb hr (fun t9_ ht hW => ⟨⟨0, (s2104_1, p2104_1), rfl, by (try dsimp only); exact ⟨by (have h9 := f104_1_1); omega, Or.inl f104_1_1⟩, by rw [ht]; exact hP, hD⟩, hS.F ht⟩) hS.2.2 dX12_member_134
      · have t_72 : ¬ (((vF 49) (9 * pi))).toInt < (((vF 16) oN)).toInt := toI_nlt c_72 rfl rfl
        refine lv_aload_n hx hb dX12_member_75 rfl (lv_at hl 1 rfl) ?_
        refine va_get (D := (dC, dI)) (ci := 12) (v := .ref (a 49)) (C := RX12) (T := TX12) (N := 163) (fs := fM (vS a (fT vi 81 (nI pi)) vj)) hx hb hts iwsRX12_member_in12 hown hK hP 0 rfl rfl 78 (by decide) (hts _ hm_r_X12_member_2) (fun _ h9 => h9) rfl dX12_member_76 ?_
        refine lv_bipush (v := 9) hx hb dX12_member_79 (by decide) ?_
        refine lv_iload_n hx hb dX12_member_81 rfl (lv_at hl 0 rfl) ?_
        refine lv_imul hx hb dX12_member_82 ?_
        refine lv_topi (fun y10 hy10 => ?_)
        obtain rfl : (nI (9 * pi)) = y10 := (hy10.trans (pk_mul 9 pi)).symm
        refine va_iald (cA := k 49) (n := 900) (f := (vF 49)) hx hb hK hP 50 49 (WR_get 49 (by decide)) (TR_get 49 (by decide)) (vp_in_nI (show (9 * pi) < 900 by omega) (by omega)) dX12_member_83 ?_
        refine lv_topi (fun y11 hy11 => ?_)
        obtain rfl : ((vF 49) (9 * pi)) = y11 := (hy11.trans (by rw [nI_clamp (by omega)])).symm
        refine lv_aload_n hx hb dX12_member_84 rfl (lv_at hl 1 rfl) ?_
        refine va_get (D := (dC, dI)) (ci := 12) (v := .ref (a 16)) (C := RX12) (T := TX12) (N := 163) (fs := fM (vS a (fT vi 81 (nI pi)) vj)) hx hb hts iwsRX12_member_in12 hown hK hP 0 rfl rfl 39 (by decide) (hts _ hm_r_X12_member_3) (fun _ h9 => h9) rfl dX12_member_85 ?_
        refine lv_iload_n hx hb dX12_member_88 rfl (lv_at hl 2 rfl) ?_
        refine va_iald (cA := k 16) (n := 44) (f := (vF 16)) hx hb hK hP 17 16 (WR_get 16 (by decide)) (TR_get 16 (by decide)) (vp_in_nI (show oN < 44 by omega) (by omega)) dX12_member_89 ?_
        refine lv_topi (fun y12 hy12 => ?_)
        obtain rfl : ((vF 16) oN) = y12 := (hy12.trans (by rw [nI_clamp (by omega)])).symm
        refine lv_aload_n hx hb dX12_member_90 rfl (lv_at hl 1 rfl) ?_
        refine va_get (D := (dC, dI)) (ci := 12) (v := .ref (a 17)) (C := RX12) (T := TX12) (N := 163) (fs := fM (vS a (fT vi 81 (nI pi)) vj)) hx hb hts iwsRX12_member_in12 hown hK hP 0 rfl rfl 40 (by decide) (hts (.fieldLink RX12 74 "OptimaWorksModel" "setMany" "[I") (by decide +kernel)) (fun _ h9 => h9) rfl dX12_member_91 ?_
        refine lv_iload_n hx hb dX12_member_94 rfl (lv_at hl 2 rfl) ?_
        refine va_iald (cA := k 17) (n := 44) (f := (vF 17)) hx hb hK hP 18 17 (WR_get 17 (by decide)) (TR_get 17 (by decide)) (vp_in_nI (show oN < 44 by omega) (by omega)) dX12_member_95 ?_
        refine lv_topi (fun y13 hy13 => ?_)
        obtain rfl : ((vF 17) oN) = y13 := (hy13.trans (by rw [nI_clamp (by omega)])).symm
        refine lv_topi (fun y14 hy14 => ?_)
        obtain rfl : (nI mN) = y14 := (hy14.trans (emN)).symm
        refine lv_iadd hx hb dX12_member_96 ?_
        have e97 : (vF 16 oN + nI mN).toInt = (vF 16 oN).toInt + (mN : Int) := by rw [addB (by omega) (by rw [nI_toInt (by omega)]; omega), nI_toInt (by omega)]
        refine lv_icmp_lt (tgt := 107) hx hb dX12_member_97 (by decide) (fun c_97 => ?_) (fun c_97 => ?_)
        · have t_97 : (((vF 49) (9 * pi))).toInt < ((((vF 16) oN) + (nI mN))).toInt := toI_lt c_97 rfl rfl
          refine lv_aload_n hx hb dX12_member_107 rfl (lv_at hl 1 rfl) ?_
          refine va_get (D := (dC, dI)) (ci := 12) (v := .int (vi 21)) (C := RX12) (T := TX12) (N := 163) (fs := fM (vS a (fT vi 81 (nI pi)) vj)) hx hb hts iwsRX12_member_in12 hown hK hP 0 rfl rfl 21 (by decide) (hts _ hm_r_X12_member_0) (fun _ h9 => h9) rfl dX12_member_108 ?_
          refine lv_if_le (tgt := 118) hx hb dX12_member_111 (by decide) (fun c_111 => ?_) (fun c9 => False.elim (by have t9 : ¬ ((vi 21)).toInt ≤ 0 := toI_nle c9 rfl (by decide); omega))
          have t_111 : ((vi 21)).toInt ≤ 0 := toI_le c_111 rfl (by decide)
          have e118 : (vF 49 (9 * pi) - vF 16 oN).toInt = (vF 49 (9 * pi)).toInt - (vF 16 oN).toInt := subB (by omega) (by omega)
          refine lv_aload_n hx hb dX12_member_118 rfl (lv_at hl 1 rfl) ?_
          refine va_get (D := (dC, dI)) (ci := 12) (v := .ref (a 49)) (C := RX12) (T := TX12) (N := 163) (fs := fM (vS a (fT vi 81 (nI pi)) vj)) hx hb hts iwsRX12_member_in12 hown hK hP 0 rfl rfl 78 (by decide) (hts _ hm_r_X12_member_2) (fun _ h9 => h9) rfl dX12_member_119 ?_
          refine lv_bipush (v := 9) hx hb dX12_member_122 (by decide) ?_
          refine lv_iload_n hx hb dX12_member_124 rfl (lv_at hl 0 rfl) ?_
          refine lv_imul hx hb dX12_member_125 ?_
          refine lv_topi (fun y15 hy15 => ?_)
          obtain rfl : (nI (9 * pi)) = y15 := (hy15.trans (pk_mul 9 pi)).symm
          refine va_iald (cA := k 49) (n := 900) (f := (vF 49)) hx hb hK hP 50 49 (WR_get 49 (by decide)) (TR_get 49 (by decide)) (vp_in_nI (show (9 * pi) < 900 by omega) (by omega)) dX12_member_126 ?_
          refine lv_topi (fun y16 hy16 => ?_)
          obtain rfl : ((vF 49) (9 * pi)) = y16 := (hy16.trans (by rw [nI_clamp (by omega)])).symm
          refine lv_aload_n hx hb dX12_member_127 rfl (lv_at hl 1 rfl) ?_
          refine va_get (D := (dC, dI)) (ci := 12) (v := .ref (a 16)) (C := RX12) (T := TX12) (N := 163) (fs := fM (vS a (fT vi 81 (nI pi)) vj)) hx hb hts iwsRX12_member_in12 hown hK hP 0 rfl rfl 39 (by decide) (hts _ hm_r_X12_member_3) (fun _ h9 => h9) rfl dX12_member_128 ?_
          refine lv_iload_n hx hb dX12_member_131 rfl (lv_at hl 2 rfl) ?_
          refine va_iald (cA := k 16) (n := 44) (f := (vF 16)) hx hb hK hP 17 16 (WR_get 16 (by decide)) (TR_get 16 (by decide)) (vp_in_nI (show oN < 44 by omega) (by omega)) dX12_member_132 ?_
          refine lv_topi (fun y17 hy17 => ?_)
          obtain rfl : ((vF 16) oN) = y17 := (hy17.trans (by rw [nI_clamp (by omega)])).symm
          refine lv_isub hx hb dX12_member_133 ?_
          refine W.widen (k := 0) (n := 0) (by decide +kernel) (by decide +kernel) ?_
          have e9 : fT (fT (fT vi 81 (nI pi)) 21 (vi 21)) 22 (vi 22) = fT vi 81 (nI pi) := (fT_id _ _ ((fT_ne _ _ (Nat.ne_of_beq_eq_false rfl)).trans (fT_ne _ _ (Nat.ne_of_beq_eq_false rfl)))).trans (fT_id _ _ (fT_ne _ _ (Nat.ne_of_beq_eq_false rfl)))
          have hP := wr_Pi e9 hP
          have hD := wr_Di e9 hD
          clear e9
          exact W.iret (v := (((vF 49) (9 * pi)) - ((vF 16) oN))) hx hb hr (fun t9_ ht hW => ⟨⟨(((vF 49) (9 * pi)) - ((vF 16) oN)), ((vi 21), (vi 22)), rfl, by (try dsimp only); exact ⟨hst0, Or.inr ⟨rfl, by obtain ⟨j5, hj5, ej5⟩ := of_toInt (x := vF 49 (9 * pi) - vF 16 oN) (k := mN) (by omega) (by omega); exact ⟨j5, by omega, ej5, emN, hj5⟩⟩⟩, by rw [ht]; exact hP, hD⟩, hS.F ht⟩) hS.2.2 dX12_member_134
        · have t_97 : ¬ (((vF 49) (9 * pi))).toInt < ((((vF 16) oN) + (nI mN))).toInt := toI_nlt c_97 rfl rfl
          refine lv_aload_n hx hb dX12_member_100 rfl (lv_at hl 1 rfl) ?_
          refine lv_bipush (v := 8) hx hb dX12_member_101 (by decide) ?_
          refine lv_iload_n hx hb dX12_member_103 rfl (lv_at hl 3 rfl) ?_
          have hFc := allFree hD hS hA
          refine va_callv (va_runV (As := [.int 8, .int pI]) (rest := []) ⟨hx, hb, hml, hown, hts⟩ (r_X12_faultAt l dC dI a k h0 (fT vi 81 (nI pi)) vj vF vG 8 pI (by first | with_reducible assumption | decide | omega | rfl | assumption) H.size) (cwV 2 hts gwsRX12_member_1 rfl rfl rfl hd_yX12_faultAt_RX12 (by decide +kernel)) (fz_pre (va_recv hK hP (ci := 12) (q0 := 0) rfl rfl) hP hK hD) rfl rfl hl.1 rfl (lv_room (Nat.le_of_ble_eq_true rfl)) dX12_member_104 (by decide +kernel)) hS (fun q _ h => hFc q h) hFc (fun u t9_ H locs ht hvm hw9 hB9 hz1 hk1 hS => ?_)
          revert u hw9 hB9
          refine fz_p2 ?_
          intro s2104_2 p2104_2 hw9 hB9
          try dsimp only at hw9 hB9
          have hP : va_P (dC, dI) vwCl (WR a k h0 (fT (fT (fT vi 81 (nI pi)) 21 s2104_2) 22 p2104_2) vj vF vG) H := fz_P ht hB9.1
          have hD := fz_sd hP (hB9.2.weaken (fun _ q _ h => hFc q.1 h)) rfl
          revert hw9
          refine fz_a2 ?_
          intro f104_2_0 f104_2_1
          have f104_2_0 : (0 < (vi 21).toInt ∧ s2104_2 = (vi 21) ∧ p2104_2 = (vi 22)) ∨ (¬ 0 < (vi 21).toInt ∧ s2104_2 = 8 ∧ p2104_2 = pI) := f104_2_0
          refine lv_aload_n hx hb dX12_member_107 rfl (lv_at hl 1 rfl) ?_
          refine va_get (D := (dC, dI)) (ci := 12) (v := .int s2104_2) (C := RX12) (T := TX12) (N := 163) (fs := fM (vS a (fT (fT (fT vi 81 (nI pi)) 21 s2104_2) 22 p2104_2) vj)) hx hb hts iwsRX12_member_in12 hown hK hP 0 rfl rfl 21 (by decide) (hts _ hm_r_X12_member_0) (fun _ h9 => h9) rfl dX12_member_108 ?_
          refine lv_if_le (tgt := 118) hx hb dX12_member_111 (by decide) (fun c9 => False.elim (by have t9 : (s2104_2).toInt ≤ 0 := toI_le c9 rfl (by decide); omega)) (fun c_111 => ?_)
          have t_111 : ¬ (s2104_2).toInt ≤ 0 := toI_nle c_111 rfl (by decide)
          refine lv_iconst (v := 0) hx hb dX12_member_114 (by decide) ?_
          refine lv_goto (tgt := 134) hx hb dX12_member_115 (by decide) ?_
          refine W.widen (k := 0) (n := 0) (by decide +kernel) (by decide +kernel) ?_
          exact W.iret (v := 0) hx hb hr (fun t9_ ht hW => ⟨⟨0, (s2104_2, p2104_2), rfl, by (try dsimp only); exact ⟨by (have h9 := f104_2_1); omega, Or.inl f104_2_1⟩, by rw [ht]; exact hP, hD⟩, hS.F ht⟩) hS.2.2 dX12_member_134
  · have t_31 : ¬ (r28).toInt = 0 := toI_neq c_31 rfl (by decide)
    refine lv_aload_n hx hb dX12_member_34 rfl (lv_at hl 1 rfl) ?_
    refine lv_bipush (v := 7) hx hb dX12_member_35 (by decide) ?_
    refine lv_iload_n hx hb dX12_member_37 rfl (lv_at hl 3 rfl) ?_
    have hFc := allFree hD hS hA
    refine va_callv (va_runV (As := [.int 7, .int pI]) (rest := []) ⟨hx, hb, hml, hown, hts⟩ (r_X12_faultAt l dC dI a k h0 (fT vi 81 (nI pi)) vj vF vG 7 pI (by first | with_reducible assumption | decide | omega | rfl | assumption) H.size) (cwV 2 hts gwsRX12_member_1 rfl rfl rfl hd_yX12_faultAt_RX12 (by decide +kernel)) (fz_pre (va_recv hK hP (ci := 12) (q0 := 0) rfl rfl) hP hK hD) rfl rfl hl.1 rfl (lv_room (Nat.le_of_ble_eq_true rfl)) dX12_member_38 (by decide +kernel)) hS (fun q _ h => hFc q h) hFc (fun u t9_ H locs ht hvm hw9 hB9 hz1 hk1 hS => ?_)
    revert u hw9 hB9
    refine fz_p2 ?_
    intro s238 p238 hw9 hB9
    try dsimp only at hw9 hB9
    have hP : va_P (dC, dI) vwCl (WR a k h0 (fT (fT (fT vi 81 (nI pi)) 21 s238) 22 p238) vj vF vG) H := fz_P ht hB9.1
    have hD := fz_sd hP (hB9.2.weaken (fun _ q _ h => hFc q.1 h)) rfl
    revert hw9
    refine fz_a2 ?_
    intro f38_0 f38_1
    have f38_0 : (0 < (vi 21).toInt ∧ s238 = (vi 21) ∧ p238 = (vi 22)) ∨ (¬ 0 < (vi 21).toInt ∧ s238 = 7 ∧ p238 = pI) := f38_0
    refine lv_goto (tgt := 107) hx hb dX12_member_41 (by decide) ?_
    refine lv_aload_n hx hb dX12_member_107 rfl (lv_at hl 1 rfl) ?_
    refine va_get (D := (dC, dI)) (ci := 12) (v := .int s238) (C := RX12) (T := TX12) (N := 163) (fs := fM (vS a (fT (fT (fT vi 81 (nI pi)) 21 s238) 22 p238) vj)) hx hb hts iwsRX12_member_in12 hown hK hP 0 rfl rfl 21 (by decide) (hts _ hm_r_X12_member_0) (fun _ h9 => h9) rfl dX12_member_108 ?_
    refine lv_if_le (tgt := 118) hx hb dX12_member_111 (by decide) (fun c9 => False.elim (by have t9 : (s238).toInt ≤ 0 := toI_le c9 rfl (by decide); omega)) (fun c_111 => ?_)
    have t_111 : ¬ (s238).toInt ≤ 0 := toI_nle c_111 rfl (by decide)
    refine lv_iconst (v := 0) hx hb dX12_member_114 (by decide) ?_
    refine lv_goto (tgt := 134) hx hb dX12_member_115 (by decide) ?_
    refine W.widen (k := 0) (n := 0) (by decide +kernel) (by decide +kernel) ?_
    exact W.iret (v := 0) hx hb hr (fun t9_ ht hW => ⟨⟨0, (s238, p238), rfl, by (try dsimp only); exact ⟨by (have h9 := f38_1); omega, Or.inl f38_1⟩, by rw [ht]; exact hP, hD⟩, hS.F ht⟩) hS.2.2 dX12_member_134
end
section
theorem hd_yX12_needSign_RX12 : yX12_needSign.cls = RX12 ∧ yX12_needSign.cls ≠ "java/lang/invoke/MethodHandle" ∧ yX12_needSign.cls ≠ "java/lang/invoke/VarHandle" ∧ (parseMethodDescriptor yX12_needSign.desc).map (fun d => d.parameters.length) = some 1 := by decide +kernel
theorem dX12_readPlaces_0 : decode cX12_readPlaces 0 = .ok (.aload_n 0, 1) := dk_42 (by decide +kernel)
theorem dX12_readPlaces_1 : decode cX12_readPlaces 1 = .ok (.iconst 0, 1) := dk_3 (by decide +kernel)
theorem dX12_readPlaces_2 : decode cX12_readPlaces 2 = .ok (.putfield 705, 3) := dk_181 (by decide +kernel)
theorem dX12_readPlaces_5 : decode cX12_readPlaces 5 = .ok (.aload_n 0, 1) := dk_42 (by decide +kernel)
theorem dX12_readPlaces_6 : decode cX12_readPlaces 6 = .ok (.iconst 0, 1) := dk_3 (by decide +kernel)
theorem dX12_readPlaces_7 : decode cX12_readPlaces 7 = .ok (.putfield 708, 3) := dk_181 (by decide +kernel)
theorem dX12_readPlaces_10 : decode cX12_readPlaces 10 = .ok (.aload_n 0, 1) := dk_42 (by decide +kernel)
theorem dX12_readPlaces_11 : decode cX12_readPlaces 11 = .ok (.iconst 0, 1) := dk_3 (by decide +kernel)
theorem dX12_readPlaces_12 : decode cX12_readPlaces 12 = .ok (.putfield 711, 3) := dk_181 (by decide +kernel)
theorem dX12_readPlaces_15 : decode cX12_readPlaces 15 = .ok (.aload_n 0, 1) := dk_42 (by decide +kernel)
theorem dX12_readPlaces_16 : decode cX12_readPlaces 16 = .ok (.getfield 515, 3) := dk_180 (by decide +kernel)
theorem dX12_readPlaces_19 : decode cX12_readPlaces 19 = .ok (.ifCond .gt 12, 3) := dk_157 (by decide +kernel)
theorem dX12_readPlaces_22 : decode cX12_readPlaces 22 = .ok (.aload_n 0, 1) := dk_42 (by decide +kernel)
theorem dX12_readPlaces_23 : decode cX12_readPlaces 23 = .ok (.bipush 91, 2) := dk_16 (by decide +kernel)
theorem dX12_readPlaces_25 : decode cX12_readPlaces 25 = .ok (.invokevirtual 521, 3) := dk_182 (by decide +kernel)
theorem dX12_readPlaces_28 : decode cX12_readPlaces 28 = .ok (.ifCond .ne 4, 3) := dk_154 (by decide +kernel)
theorem dX12_readPlaces_31 : decode cX12_readPlaces 31 = .ok (.return_, 1) := dk_177 (by decide +kernel)
theorem dX12_readPlaces_32 : decode cX12_readPlaces 32 = .ok (.aload_n 0, 1) := dk_42 (by decide +kernel)
theorem dX12_readPlaces_33 : decode cX12_readPlaces 33 = .ok (.invokevirtual 524, 3) := dk_182 (by decide +kernel)
theorem dX12_readPlaces_36 : decode cX12_readPlaces 36 = .ok (.aload_n 0, 1) := dk_42 (by decide +kernel)
theorem dX12_readPlaces_37 : decode cX12_readPlaces 37 = .ok (.aload_n 0, 1) := dk_42 (by decide +kernel)
theorem dX12_readPlaces_38 : decode cX12_readPlaces 38 = .ok (.invokevirtual 564, 3) := dk_182 (by decide +kernel)
theorem dX12_readPlaces_41 : decode cX12_readPlaces 41 = .ok (.putfield 708, 3) := dk_181 (by decide +kernel)
theorem dX12_readPlaces_44 : decode cX12_readPlaces 44 = .ok (.aload_n 0, 1) := dk_42 (by decide +kernel)
theorem dX12_readPlaces_45 : decode cX12_readPlaces 45 = .ok (.iconst 1, 1) := dk_4 (by decide +kernel)
theorem dX12_readPlaces_46 : decode cX12_readPlaces 46 = .ok (.putfield 705, 3) := dk_181 (by decide +kernel)
theorem dX12_readPlaces_49 : decode cX12_readPlaces 49 = .ok (.aload_n 0, 1) := dk_42 (by decide +kernel)
theorem dX12_readPlaces_50 : decode cX12_readPlaces 50 = .ok (.getfield 515, 3) := dk_180 (by decide +kernel)
theorem dX12_readPlaces_53 : decode cX12_readPlaces 53 = .ok (.ifCond .ne 29, 3) := dk_154 (by decide +kernel)
theorem dX12_readPlaces_56 : decode cX12_readPlaces 56 = .ok (.aload_n 0, 1) := dk_42 (by decide +kernel)
theorem dX12_readPlaces_57 : decode cX12_readPlaces 57 = .ok (.bipush 44, 2) := dk_16 (by decide +kernel)
theorem dX12_readPlaces_59 : decode cX12_readPlaces 59 = .ok (.invokevirtual 521, 3) := dk_182 (by decide +kernel)
theorem dX12_readPlaces_62 : decode cX12_readPlaces 62 = .ok (.ifCond .eq 20, 3) := dk_153 (by decide +kernel)
theorem dX12_readPlaces_65 : decode cX12_readPlaces 65 = .ok (.aload_n 0, 1) := dk_42 (by decide +kernel)
theorem dX12_readPlaces_66 : decode cX12_readPlaces 66 = .ok (.invokevirtual 524, 3) := dk_182 (by decide +kernel)
theorem dX12_readPlaces_69 : decode cX12_readPlaces 69 = .ok (.aload_n 0, 1) := dk_42 (by decide +kernel)
theorem dX12_readPlaces_70 : decode cX12_readPlaces 70 = .ok (.aload_n 0, 1) := dk_42 (by decide +kernel)
theorem dX12_readPlaces_71 : decode cX12_readPlaces 71 = .ok (.invokevirtual 564, 3) := dk_182 (by decide +kernel)
theorem dX12_readPlaces_74 : decode cX12_readPlaces 74 = .ok (.putfield 711, 3) := dk_181 (by decide +kernel)
theorem dX12_readPlaces_77 : decode cX12_readPlaces 77 = .ok (.aload_n 0, 1) := dk_42 (by decide +kernel)
theorem dX12_readPlaces_78 : decode cX12_readPlaces 78 = .ok (.iconst 2, 1) := dk_5 (by decide +kernel)
theorem dX12_readPlaces_79 : decode cX12_readPlaces 79 = .ok (.putfield 705, 3) := dk_181 (by decide +kernel)
theorem dX12_readPlaces_82 : decode cX12_readPlaces 82 = .ok (.aload_n 0, 1) := dk_42 (by decide +kernel)
theorem dX12_readPlaces_83 : decode cX12_readPlaces 83 = .ok (.bipush 93, 2) := dk_16 (by decide +kernel)
theorem dX12_readPlaces_85 : decode cX12_readPlaces 85 = .ok (.invokevirtual 611, 3) := dk_182 (by decide +kernel)
theorem dX12_readPlaces_88 : decode cX12_readPlaces 88 = .ok (.pop, 1) := dk_87 (by decide +kernel)
theorem dX12_readPlaces_89 : decode cX12_readPlaces 89 = .ok (.return_, 1) := dk_177 (by decide +kernel)
def wsRX12_readPlaces : List Cond := .code yX12_readPlaces cX12_readPlaces 1 none :: ([.fieldLink RX12 705 "OptimaWorksModel" "places" "I", .fieldLink RX12 708 "OptimaWorksModel" "placeOne" "I", .fieldLink RX12 711 "OptimaWorksModel" "placeTwo" "I", .fieldLink RX12 515 "OptimaWorksModel" "stop" "I"] ++ wsX120 ++ (wsV RX12 521 RX12 yX12_isSign wsRX12_isSign) ++ (wsV RX12 524 RX12 yX12_next wsRX12_next) ++ (wsV RX12 564 RX12 yX12_readSet wsRX12_readSet) ++ (wsV RX12 611 RX12 yX12_needSign wsRX12_needSign))
theorem iwsRX12_readPlaces_in12 : ∀ w ∈ wsX120, w ∈ wsRX12_readPlaces := fun _ h => List.mem_cons_of_mem _ (List.mem_append_left _ (List.mem_append_left _ (List.mem_append_left _ (List.mem_append_left _ (List.mem_append_right _ h)))))
theorem gwsRX12_readPlaces_0 : GoodIn wsRX12_readPlaces (wsV RX12 521 RX12 yX12_isSign wsRX12_isSign) := goodIn_sub (fun _ h => List.mem_cons_of_mem _ (List.mem_append_left _ (List.mem_append_left _ (List.mem_append_left _ (List.mem_append_right _ h))))) (gdV (by decide +kernel) gdwsRX12_isSign)
theorem gwsRX12_readPlaces_1 : GoodIn wsRX12_readPlaces (wsV RX12 524 RX12 yX12_next wsRX12_next) := goodIn_sub (fun _ h => List.mem_cons_of_mem _ (List.mem_append_left _ (List.mem_append_left _ (List.mem_append_right _ h)))) (gdV (by decide +kernel) gdwsRX12_next)
theorem gwsRX12_readPlaces_2 : GoodIn wsRX12_readPlaces (wsV RX12 564 RX12 yX12_readSet wsRX12_readSet) := goodIn_sub (fun _ h => List.mem_cons_of_mem _ (List.mem_append_left _ (List.mem_append_right _ h))) (gdV (by decide +kernel) gdwsRX12_readSet)
theorem gwsRX12_readPlaces_3 : GoodIn wsRX12_readPlaces (wsV RX12 611 RX12 yX12_needSign wsRX12_needSign) := goodIn_sub (fun _ h => List.mem_cons_of_mem _ (List.mem_append_right _ h)) (gdV (by decide +kernel) gdwsRX12_needSign)
theorem gdwsRX12_readPlaces : wsRX12_readPlaces.all goodWord = true := gdC rfl (gdA (gdA (gdA (gdA (gdA (by decide +kernel : ([.fieldLink RX12 705 "OptimaWorksModel" "places" "I", .fieldLink RX12 708 "OptimaWorksModel" "placeOne" "I", .fieldLink RX12 711 "OptimaWorksModel" "placeTwo" "I", .fieldLink RX12 515 "OptimaWorksModel" "stop" "I"] : List Cond).all goodWord = true) gdwsX120) (gdV (by decide +kernel) gdwsRX12_isSign)) (gdV (by decide +kernel) gdwsRX12_next)) (gdV (by decide +kernel) gdwsRX12_readSet)) (gdV (by decide +kernel) gdwsRX12_needSign))
theorem hm_r_X12_readPlaces_0 : (.fieldLink RX12 705 "OptimaWorksModel" "places" "I" : Cond) ∈ wsRX12_readPlaces := by decide +kernel
theorem hm_r_X12_readPlaces_1 : (.fieldLink RX12 708 "OptimaWorksModel" "placeOne" "I" : Cond) ∈ wsRX12_readPlaces := by decide +kernel
theorem hm_r_X12_readPlaces_2 : (.fieldLink RX12 711 "OptimaWorksModel" "placeTwo" "I" : Cond) ∈ wsRX12_readPlaces := by decide +kernel
theorem hm_r_X12_readPlaces_3 : (.fieldLink RX12 515 "OptimaWorksModel" "stop" "I" : Cond) ∈ wsRX12_readPlaces := by decide +kernel
set_option maxHeartbeats 4000000 in
set_option maxRecDepth 100000 in
/-- readPlaces() -/
theorem r_X12_readPlaces (l : Launch) (dC : Nat → ClassId) (dI : Nat → Nat → Nat) (a : Nat → Nat) (k : Nat → ClassId) (h0 : Nat) (vi : Nat → Int32) (vj : Nat → Int64) (vF : Nat → Nat → Int32) (vG : Nat → Nat → Int64) (tp : Nat) (an : Nat) (fn : Nat) (nm : Nat) (se : Nat) (pa : Nat) (va : Nat) (hTp : vi 16 = nI tp) (htp : tp ≤ 4000) (ha0 : vi 17 = nI an) (hfr : vi 19 = nI fn) (hLx : LxO tp fn an (vi 18) (vi 20)) (hst0 : 0 ≤ (vi 21).toInt) (hnm : vi 25 = nI nm) (hnm40 : nm ≤ 40) (hno : NmO (vF 11) (vF 12) nm) (hNk : NkO (vF 10) (vF 13) nm se pa va) (hse44 : se ≤ 44) (sz : Nat) : Met l yX12_readPlaces wsRX12_readPlaces ({ frames := 9, cells := 0, slots := 0, locals := 194 }) (va_Pc [.ref h0] (fun U => U.heap.size = sz ∧ va_P (dC, dI) vwCl (WR a k h0 vi vj vF vG) U.heap ∧ va_K (dC, dI) vwCl (tX12 k) U ∧ va_D (fun _ => True) (WR a k h0 vi vj vF vG) ∧ StrA (va_A (WR a k h0 vi vj vF vG) sz) U U.heap)) (va_Qv (fun (u : (Nat) × (Nat) × (Int32) × (Int32) × (Int32) × (Int32) × (Int32) × (Int32) × (Int32)) => (LxO tp (u.2.1) (u.1) (u.2.2.2.1) (u.2.2.1)) ∧ (fn ≤ (u.2.1)) ∧ (0 ≤ ((u.2.2.2.2.1)).toInt) ∧ ((0 < ((u.2.2.2.2.1)).toInt) ∨ ((u.2.2.2.2.1) = 0 ∧ vi 21 = 0 ∧ ∃ pl o1 o2 : Nat, (u.2.2.2.2.2.2.1) = nI pl ∧ (u.2.2.2.2.2.2.2.1) = nI o1 ∧ (u.2.2.2.2.2.2.2.2) = nI o2 ∧ pl ≤ 2 ∧ o1 < 44 ∧ o2 < 44 ∧ (1 ≤ pl → o1 < se) ∧ (pl = 2 → o2 < se)))) (fun (u : (Nat) × (Nat) × (Int32) × (Int32) × (Int32) × (Int32) × (Int32) × (Int32) × (Int32)) t => va_P (dC, dI) vwCl (WR a k h0 (fT (fT (fT (fT (fT (fT (fT (fT (fT vi 110 (u.2.2.2.2.2.2.1)) 111 (u.2.2.2.2.2.2.2.1)) 112 (u.2.2.2.2.2.2.2.2)) 17 (nI (u.1))) 19 (nI (u.2.1))) 20 (u.2.2.1)) 18 (u.2.2.2.1)) 21 (u.2.2.2.2.1)) 22 (u.2.2.2.2.2.1)) vj vF vG) t.heap ∧ va_D (va_A (WR a k h0 vi vj vF vG) sz) (WR a k h0 (fT (fT (fT (fT (fT (fT (fT (fT (fT vi 110 (u.2.2.2.2.2.2.1)) 111 (u.2.2.2.2.2.2.2.1)) 112 (u.2.2.2.2.2.2.2.2)) 17 (nI (u.1))) 19 (nI (u.2.1))) 20 (u.2.2.1)) 18 (u.2.2.2.1)) 21 (u.2.2.2.2.1)) 22 (u.2.2.2.2.2.1)) vj vF vG)) (va_A (WR a k h0 vi vj vF vG) sz)) 0 0 (va_A (WR a k h0 vi vj vF vG) sz) := by
  refine Met.ofW (cc := cX12_readPlaces) (maxL := 1) (ret := none) (by decide) rfl ?_
  intro p e s m args below meth c s₁ B hml hv
  obtain ⟨rfl, hsz, hP, hK, hD0, hE⟩ := hv
  have hx := B.exec
  have hb := B.bytes
  have hr := B.returns
  have hts := atoms_spec (ws := wsRX12_readPlaces) B.pre
  have hown : s.vm.findClass RX12 = some m.cls := findClass_of_methodNamed B.named
  have hlocks := B.notSynchronized
  subst hsz
  have hD := hD0.self (sz := s.heap.size)
  generalize hAe : va_A (WR a k h0 vi vj vF vG) s.heap.size = A at hD hE ⊢
  have hA : ∀ q : Nat, s.heap.size ≤ q → A q := fun q h => by rw [← hAe]; exact Or.inr h
  have hS : va_S A s.heap s.heap [] := va_S.rf
  have hl := lv_entry ([.ref h0]) (n := 1) (Nat.le_of_ble_eq_true rfl)
  rw [lg_entry_eq]
  generalize (lg_sl ([.ref h0]) ++ List.replicate (1 - (lg_sl ([.ref h0])).length) Slot.unset).toArray = ls at hl ⊢
  have hl : lv_has ls 1 [(0, .ref h0)] := hl
  have hfa := hLx.1
  have han := hLx.2.1
  have han4 : an ≤ 4000 := by omega
  refine lv_aload_n hx hb dX12_readPlaces_0 rfl (lv_at hl 0 rfl) ?_
  refine lv_iconst (v := 0) hx hb dX12_readPlaces_1 (by decide) ?_
  refine va_put (D := (dC, dI)) (ci := 12) (v := .int 0) (ty := .int) (C := RX12) (T := TX12) (N := 163) (fs := fM (vS a vi vj)) hx hb hts iwsRX12_readPlaces_in12 tyX12 tyX12_ok nmX12 hown hK hP hD hS 0 rfl rfl 110 (by decide) (hts _ hm_r_X12_readPlaces_0) (fun _ h9 => h9) rfl (by decide +kernel) rfl rfl (Nat.le_of_ble_eq_true rfl) dX12_readPlaces_2 (fun H locs hP hD hS => ?_)
  have hP : va_P (dC, dI) vwCl (WR a k h0 (fT vi 110 0) vj vF vG) H := fz_w (WR_i 110 _ rfl) hP
  have hD : va_D A (WR a k h0 (fT vi 110 0) vj vF vG) := fz_wD (WR_i 110 _ rfl) hD
  refine lv_aload_n hx hb dX12_readPlaces_5 rfl (lv_at hl 0 rfl) ?_
  refine lv_iconst (v := 0) hx hb dX12_readPlaces_6 (by decide) ?_
  refine va_put (D := (dC, dI)) (ci := 12) (v := .int 0) (ty := .int) (C := RX12) (T := TX12) (N := 163) (fs := fM (vS a (fT vi 110 0) vj)) hx hb hts iwsRX12_readPlaces_in12 tyX12 tyX12_ok nmX12 hown hK hP hD hS 0 rfl rfl 111 (by decide) (hts _ hm_r_X12_readPlaces_1) (fun _ h9 => h9) rfl (by decide +kernel) rfl rfl (Nat.le_of_ble_eq_true rfl) dX12_readPlaces_7 (fun H locs hP hD hS => ?_)
  have hP : va_P (dC, dI) vwCl (WR a k h0 (fT (fT vi 110 0) 111 0) vj vF vG) H := fz_w (WR_i 111 _ rfl) hP
  have hD : va_D A (WR a k h0 (fT (fT vi 110 0) 111 0) vj vF vG) := fz_wD (WR_i 111 _ rfl) hD
  refine lv_aload_n hx hb dX12_readPlaces_10 rfl (lv_at hl 0 rfl) ?_
  refine lv_iconst (v := 0) hx hb dX12_readPlaces_11 (by decide) ?_
  refine va_put (D := (dC, dI)) (ci := 12) (v := .int 0) (ty := .int) (C := RX12) (T := TX12) (N := 163) (fs := fM (vS a (fT (fT vi 110 0) 111 0) vj)) hx hb hts iwsRX12_readPlaces_in12 tyX12 tyX12_ok nmX12 hown hK hP hD hS 0 rfl rfl 112 (by decide) (hts _ hm_r_X12_readPlaces_2) (fun _ h9 => h9) rfl (by decide +kernel) rfl rfl (Nat.le_of_ble_eq_true rfl) dX12_readPlaces_12 (fun H locs hP hD hS => ?_)
  have hP : va_P (dC, dI) vwCl (WR a k h0 (fT (fT (fT vi 110 0) 111 0) 112 0) vj vF vG) H := fz_w (WR_i 112 _ rfl) hP
  have hD : va_D A (WR a k h0 (fT (fT (fT vi 110 0) 111 0) 112 0) vj vF vG) := fz_wD (WR_i 112 _ rfl) hD
  refine lv_aload_n hx hb dX12_readPlaces_15 rfl (lv_at hl 0 rfl) ?_
  refine va_get (D := (dC, dI)) (ci := 12) (v := .int (vi 21)) (C := RX12) (T := TX12) (N := 163) (fs := fM (vS a (fT (fT (fT vi 110 0) 111 0) 112 0) vj)) hx hb hts iwsRX12_readPlaces_in12 hown hK hP 0 rfl rfl 21 (by decide) (hts _ hm_r_X12_readPlaces_3) (fun _ h9 => h9) rfl dX12_readPlaces_16 ?_
  refine lv_if_gt (tgt := 31) hx hb dX12_readPlaces_19 (by decide) (fun c_19 => ?_) (fun c_19 => ?_)
  · have t_19 : ((vi 21)).toInt > 0 := toI_gt c_19 rfl (by decide)
    refine W.widen (k := 0) (n := 0) (by decide +kernel) (by decide +kernel) ?_
    have e9 : fT (fT (fT (fT (fT (fT (fT (fT (fT vi 110 0) 111 0) 112 0) 17 (nI an)) 19 (nI fn)) 20 (vi 20)) 18 (vi 18)) 21 (vi 21)) 22 (vi 22) = fT (fT (fT vi 110 0) 111 0) 112 0 := Eq.trans (mv_5 rfl) (Eq.trans (congrArg (fT _ 17) (show nI an = vi 17 from (by first | with_reducible rfl | with_reducible assumption | (symm; with_reducible assumption) | rfl | assumption | (symm; assumption) | (subst_vars; rfl)))) (Eq.trans (id_8 rfl) (Eq.trans (mv_4 rfl) (Eq.trans (congrArg (fT _ 19) (show nI fn = vi 19 from (by first | with_reducible rfl | with_reducible assumption | (symm; with_reducible assumption) | rfl | assumption | (symm; assumption) | (subst_vars; rfl)))) (Eq.trans (id_7 rfl) (Eq.trans (mv_3 rfl) (Eq.trans (id_6 rfl) (Eq.trans (mv_2 rfl) (Eq.trans (id_5 rfl) (Eq.trans (mv_1 rfl) (Eq.trans (id_4 rfl) (id_3 rfl))))))))))))
    have hP := wr_Pi e9 hP
    have hD := wr_Di e9 hD
    clear e9
    exact W.vret hx hb hr (fun t9_ ht hW => ⟨⟨(an, fn, (vi 20), (vi 18), (vi 21), (vi 22), 0, 0, 0), rfl, by (try dsimp only); exact ⟨hLx, Nat.le_refl _, hst0, Or.inl (by omega)⟩, by rw [ht]; exact hP, hD⟩, hS.F ht⟩) hS.2.2 dX12_readPlaces_31
  · have t_19 : ¬ ((vi 21)).toInt > 0 := toI_ngt c_19 rfl (by decide)
    refine lv_aload_n hx hb dX12_readPlaces_22 rfl (lv_at hl 0 rfl) ?_
    refine lv_bipush (v := 91) hx hb dX12_readPlaces_23 (by decide) ?_
    have hFc := allFree hD hS hA
    refine va_calli (va_runV (As := [.int 91]) (rest := []) ⟨hx, hb, hml, hown, hts⟩ (r_X12_isSign l dC dI a k h0 (fT (fT (fT vi 110 0) 111 0) 112 0) vj vF vG 91 H.size) (cwV 1 hts gwsRX12_readPlaces_0 rfl rfl rfl hd_yX12_isSign_RX12 (by decide +kernel)) (fz_pre (va_recv hK hP (ci := 12) (q0 := 0) rfl rfl) hP hK hD) rfl rfl hl.1 rfl (lv_room (Nat.le_of_ble_eq_true rfl)) dX12_readPlaces_25 (by decide +kernel)) hS (fun q _ h => hFc q h) hFc (fun r25 u t9_ H locs ht hvm hw9 hB9 hz1 hk1 hS => ?_)
    have hP : va_P (dC, dI) vwCl (WR a k h0 (fT (fT (fT vi 110 0) 111 0) 112 0) vj vF vG) H := fz_P ht hB9.1
    have hD := fz_sd hP (hB9.2.weaken (fun _ q _ h => hFc q.1 h)) rfl
    rcases hw9 with ⟨rfl, f25_0, f25_1⟩ | ⟨rfl, f25_0⟩
    · have f25_0 : (vi 18).toInt = 4 := f25_0
      have f25_1 : (vi 20) = 91 := f25_1
      refine lv_if_ne (tgt := 32) hx hb dX12_readPlaces_28 (by decide) (fun _ => ?_) (fun c9 => absurd c9 (by decide))
      refine lv_aload_n hx hb dX12_readPlaces_32 rfl (lv_at hl 0 rfl) ?_
      have hFc := allFree hD hS hA
      refine va_callv (va_runV (As := []) (rest := []) ⟨hx, hb, hml, hown, hts⟩ (r_X12_next l dC dI a k h0 (fT (fT (fT vi 110 0) 111 0) 112 0) vj vF vG tp an hTp (by first | with_reducible assumption | decide | omega | rfl | assumption) ha0 (by first | with_reducible assumption | decide | omega | rfl | assumption) H.size) (cwV 0 hts gwsRX12_readPlaces_1 rfl rfl rfl hd_yX12_next_RX12 (by decide +kernel)) (fz_preE (va_recv hK hP (ci := 12) (q0 := 0) rfl rfl) hP hK hD (fun a U g mk qE => qE.same rfl) (fun U hU9 hW => by rw [hU9]; exact (((hE : StrA A s s.heap).kept hS.2.1).narrow (fun q h => hFc q h)).warm hW)) rfl rfl hl.1 rfl (lv_room (Nat.le_of_ble_eq_true rfl)) dX12_readPlaces_33 (by decide +kernel)) hS (fun q _ h => hFc q h) hFc (fun u t9_ H locs ht hvm hw9 hB9 hz1 hk1 hS => ?_)
      revert u hw9 hB9
      refine fz_p4 ?_
      intro a233 f233 sg33 wd33 hw9 hB9
      try dsimp only at hw9 hB9
      have hP : va_P (dC, dI) vwCl (WR a k h0 (fT (fT (fT (fT (fT (fT (fT vi 110 0) 111 0) 112 0) 17 (nI a233)) 19 (nI f233)) 20 sg33) 18 wd33) vj vF vG) H := fz_P ht hB9.1
      have hD := fz_sd hP (hB9.2.weaken (fun _ q _ h => hFc q.1 h)) rfl
      revert hw9
      refine fz_a2 ?_
      intro f33_0 f33_1
      have hg9 := f33_0.1
      refine lv_aload_n hx hb dX12_readPlaces_36 rfl (lv_at hl 0 rfl) ?_
      refine lv_aload_n hx hb dX12_readPlaces_37 rfl (lv_at hl 0 rfl) ?_
      have hFc := allFree hD hS hA
      refine va_calli (va_runV (As := []) (rest := [.ref h0]) ⟨hx, hb, hml, hown, hts⟩ (r_X12_readSet l dC dI a k h0 (fT (fT (fT (fT (fT (fT (fT vi 110 0) 111 0) 112 0) 17 (nI a233)) 19 (nI f233)) 20 sg33) 18 wd33) vj vF vG tp a233 f233 nm se pa va hTp (by first | with_reducible assumption | decide | omega | rfl | assumption) rfl rfl (f33_0) (by first | with_reducible assumption | decide | omega | rfl | assumption) hnm (by first | with_reducible assumption | decide | omega | rfl | assumption) (by first | with_reducible assumption | decide | omega | rfl | assumption) (by first | with_reducible assumption | decide | omega | rfl | assumption) H.size) (cwV 0 hts gwsRX12_readPlaces_2 rfl rfl rfl hd_yX12_readSet_RX12 (by decide +kernel)) (fz_preE (va_recv hK hP (ci := 12) (q0 := 0) rfl rfl) hP hK hD (fun a U g mk qE => qE.same rfl) (fun U hU9 hW => by rw [hU9]; exact (((hE : StrA A s s.heap).kept hS.2.1).narrow (fun q h => hFc q h)).warm hW)) rfl rfl hl.1 rfl (lv_room (Nat.le_of_ble_eq_true rfl)) dX12_readPlaces_38 (by decide +kernel)) hS (fun q _ h => hFc q h) hFc (fun r38 u t9_ H locs ht hvm hw9 hB9 hz1 hk1 hS => ?_)
      revert u hw9 hB9
      refine fz_p6 ?_
      intro a238 f238 sg38 wd38 s238 p238 hw9 hB9
      try dsimp only at hw9 hB9
      have e9i : fT (fT (fT (fT (fT (fT (fT (fT (fT vi 110 0) 111 0) 112 0) 17 (nI a238)) 19 (nI f238)) 20 sg38) 18 wd38) 21 s238) 22 p238 = fT (fT (fT (fT (fT (fT (fT (fT (fT (fT (fT (fT (fT vi 110 0) 111 0) 112 0) 17 (nI a233)) 19 (nI f233)) 20 sg33) 18 wd33) 17 (nI a238)) 19 (nI f238)) 20 sg38) 18 wd38) 21 s238) 22 p238 := Eq.symm (congrArg (fun g9 => fT (fT g9 21 s238) 22 p238) (Eq.trans (congrArg (fun g9 => fT g9 18 wd38) (Eq.trans (congrArg (fun g9 => fT g9 20 sg38) (Eq.trans (congrArg (fun g9 => fT g9 19 (nI f238)) (up_3 rfl)) (up_2 rfl))) (up_1 rfl))) (up_0 rfl)))
      have hP := wr_Pi e9i (fz_P ht hB9.1)
      have hD := wr_Di e9i (hB9.2.weaken (fun _ q _ h => hFc q.1 h))
      clear e9i
      revert hw9
      refine fz_a4 ?_
      intro f38_0 f38_1 f38_2 f38_3
      refine va_put (D := (dC, dI)) (ci := 12) (v := .int r38) (ty := .int) (C := RX12) (T := TX12) (N := 163) (fs := fM (vS a (fT (fT (fT (fT (fT (fT (fT (fT (fT vi 110 0) 111 0) 112 0) 17 (nI a238)) 19 (nI f238)) 20 sg38) 18 wd38) 21 s238) 22 p238) vj)) hx hb hts iwsRX12_readPlaces_in12 tyX12 tyX12_ok nmX12 hown hK hP hD hS 0 rfl rfl 111 (by decide) (hts _ hm_r_X12_readPlaces_1) (fun _ h9 => h9) rfl (by decide +kernel) rfl rfl (Nat.le_of_ble_eq_true rfl) dX12_readPlaces_41 (fun H locs hP hD hS => ?_)
      have e9 : fT (fT (fT (fT (fT (fT (fT (fT (fT vi 110 0) 111 r38) 112 0) 17 (nI a238)) 19 (nI f238)) 20 sg38) 18 wd38) 21 s238) 22 p238 = fT (fT (fT (fT (fT (fT (fT (fT (fT (fT vi 110 0) 111 0) 112 0) 17 (nI a238)) 19 (nI f238)) 20 sg38) 18 wd38) 21 s238) 22 p238) 111 r38 := Eq.symm (up_7 rfl)
      have hP := wr_Pi e9 (fz_w (WR_i 111 _ rfl) hP)
      have hD := wr_Di e9 (fz_wD (WR_i 111 _ rfl) hD)
      clear e9
      refine lv_aload_n hx hb dX12_readPlaces_44 rfl (lv_at hl 0 rfl) ?_
      refine lv_iconst (v := 1) hx hb dX12_readPlaces_45 (by decide) ?_
      refine va_put (D := (dC, dI)) (ci := 12) (v := .int 1) (ty := .int) (C := RX12) (T := TX12) (N := 163) (fs := fM (vS a (fT (fT (fT (fT (fT (fT (fT (fT (fT vi 110 0) 111 r38) 112 0) 17 (nI a238)) 19 (nI f238)) 20 sg38) 18 wd38) 21 s238) 22 p238) vj)) hx hb hts iwsRX12_readPlaces_in12 tyX12 tyX12_ok nmX12 hown hK hP hD hS 0 rfl rfl 110 (by decide) (hts _ hm_r_X12_readPlaces_0) (fun _ h9 => h9) rfl (by decide +kernel) rfl rfl (Nat.le_of_ble_eq_true rfl) dX12_readPlaces_46 (fun H locs hP hD hS => ?_)
      have e9 : fT (fT (fT (fT (fT (fT (fT (fT (fT vi 110 1) 111 r38) 112 0) 17 (nI a238)) 19 (nI f238)) 20 sg38) 18 wd38) 21 s238) 22 p238 = fT (fT (fT (fT (fT (fT (fT (fT (fT (fT vi 110 0) 111 r38) 112 0) 17 (nI a238)) 19 (nI f238)) 20 sg38) 18 wd38) 21 s238) 22 p238) 110 1 := Eq.symm (up_8 rfl)
      have hP := wr_Pi e9 (fz_w (WR_i 110 _ rfl) hP)
      have hD := wr_Di e9 (fz_wD (WR_i 110 _ rfl) hD)
      clear e9
      have hg8 := f38_0.1
      refine lv_aload_n hx hb dX12_readPlaces_49 rfl (lv_at hl 0 rfl) ?_
      refine va_get (D := (dC, dI)) (ci := 12) (v := .int s238) (C := RX12) (T := TX12) (N := 163) (fs := fM (vS a (fT (fT (fT (fT (fT (fT (fT (fT (fT vi 110 1) 111 r38) 112 0) 17 (nI a238)) 19 (nI f238)) 20 sg38) 18 wd38) 21 s238) 22 p238) vj)) hx hb hts iwsRX12_readPlaces_in12 hown hK hP 0 rfl rfl 21 (by decide) (hts _ hm_r_X12_readPlaces_3) (fun _ h9 => h9) rfl dX12_readPlaces_50 ?_
      refine W.cut (pc := 82) (fun H locs ls stk => ∃ (a6 : Nat) (f6 : Nat) (w6 : Int32) (g6 : Int32) (s6 : Int32) (ps6 : Int32) (pt6 : Int32) (j1_i22 : Int32), (LxO tp f6 a6 w6 g6) ∧ (fn ≤ f6) ∧ (0 ≤ (s6).toInt) ∧ ((0 < (s6).toInt) ∨ ∃ pl o1 o2 : Nat, ps6 = nI pl ∧ r38 = nI o1 ∧ pt6 = nI o2 ∧ pl ≤ 2 ∧ o1 < 44 ∧ o2 < 44 ∧ (1 ≤ pl → o1 < se) ∧ (pl = 2 → o2 < se)) ∧  stk = [] ∧ va_P (dC, dI) vwCl (WR a k h0 (fT (fT (fT (fT (fT (fT (fT (fT (fT vi 110 ps6) 111 r38) 112 pt6) 17 (nI a6)) 19 (nI f6)) 20 g6) 18 w6) 21 s6) 22 j1_i22) vj vF vG) H ∧ va_D A (WR a k h0 (fT (fT (fT (fT (fT (fT (fT (fT (fT vi 110 ps6) 111 r38) 112 pt6) 17 (nI a6)) 19 (nI f6)) 20 g6) 18 w6) 21 s6) 22 j1_i22) vj vF vG) ∧ va_S A s.heap H locs ∧ lv_has ls 1 [(0, .ref h0)]) (fun join1 => ?_) ?_
      · refine lv_if_ne (tgt := 82) hx hb dX12_readPlaces_53 (by decide) (fun c_53 => ?_) (fun c_53 => ?_)
        · have t_53 : (s238).toInt ≠ 0 := toI_ne c_53 rfl (by decide)
          have hl : lv_has _ _ ([(0, .ref h0)]) := lv_sub hl [0] rfl
          exact join1 _ _ _ _ ⟨a238, f238, wd38, sg38, s238, 1, 0, p238, f38_0, by omega, f38_2, by rcases f38_3 with h9 | ⟨_, _, o1, h7, h6⟩; (exact Or.inl h9); (exact Or.inr ⟨1, o1, 0, by decide, h6, by decide, by omega, by omega, by omega, fun _ => h7, fun h9 => absurd h9 (by omega)⟩), rfl, hP, hD, hS, hl⟩
        · have t_53 : (s238).toInt = 0 := toI_nne c_53 rfl (by decide)
          have hz38 : (s238).toInt = 0 := by rw [c_53]; decide
          refine lv_aload_n hx hb dX12_readPlaces_56 rfl (lv_at hl 0 rfl) ?_
          refine lv_bipush (v := 44) hx hb dX12_readPlaces_57 (by decide) ?_
          have hFc := allFree hD hS hA
          refine va_calli (va_runV (As := [.int 44]) (rest := []) ⟨hx, hb, hml, hown, hts⟩ (r_X12_isSign l dC dI a k h0 (fT (fT (fT (fT (fT (fT (fT (fT (fT vi 110 1) 111 r38) 112 0) 17 (nI a238)) 19 (nI f238)) 20 sg38) 18 wd38) 21 s238) 22 p238) vj vF vG 44 H.size) (cwV 1 hts gwsRX12_readPlaces_0 rfl rfl rfl hd_yX12_isSign_RX12 (by decide +kernel)) (fz_pre (va_recv hK hP (ci := 12) (q0 := 0) rfl rfl) hP hK hD) rfl rfl hl.1 rfl (lv_room (Nat.le_of_ble_eq_true rfl)) dX12_readPlaces_59 (by decide +kernel)) hS (fun q _ h => hFc q h) hFc (fun r59 u t9_ H locs ht hvm hw9 hB9 hz1 hk1 hS => ?_)
          have hP : va_P (dC, dI) vwCl (WR a k h0 (fT (fT (fT (fT (fT (fT (fT (fT (fT vi 110 1) 111 r38) 112 0) 17 (nI a238)) 19 (nI f238)) 20 sg38) 18 wd38) 21 s238) 22 p238) vj vF vG) H := fz_P ht hB9.1
          have hD := fz_sd hP (hB9.2.weaken (fun _ q _ h => hFc q.1 h)) rfl
          rcases hw9 with ⟨rfl, f59_0, f59_1⟩ | ⟨rfl, f59_0⟩
          · have f59_0 : wd38.toInt = 4 := f59_0
            have f59_1 : sg38 = 44 := f59_1
            refine lv_if_eq (tgt := 82) hx hb dX12_readPlaces_62 (by decide) (fun c9 => absurd c9 (by decide)) (fun _ => ?_)
            refine lv_aload_n hx hb dX12_readPlaces_65 rfl (lv_at hl 0 rfl) ?_
            have hFc := allFree hD hS hA
            refine va_callv (va_runV (As := []) (rest := []) ⟨hx, hb, hml, hown, hts⟩ (r_X12_next l dC dI a k h0 (fT (fT (fT (fT (fT (fT (fT (fT (fT vi 110 1) 111 r38) 112 0) 17 (nI a238)) 19 (nI f238)) 20 sg38) 18 wd38) 21 s238) 22 p238) vj vF vG tp a238 hTp (by first | with_reducible assumption | decide | omega | rfl | assumption) rfl (f38_0.2.1) H.size) (cwV 0 hts gwsRX12_readPlaces_1 rfl rfl rfl hd_yX12_next_RX12 (by decide +kernel)) (fz_preE (va_recv hK hP (ci := 12) (q0 := 0) rfl rfl) hP hK hD (fun a U g mk qE => qE.same rfl) (fun U hU9 hW => by rw [hU9]; exact (((hE : StrA A s s.heap).kept hS.2.1).narrow (fun q h => hFc q h)).warm hW)) rfl rfl hl.1 rfl (lv_room (Nat.le_of_ble_eq_true rfl)) dX12_readPlaces_66 (by decide +kernel)) hS (fun q _ h => hFc q h) hFc (fun u t9_ H locs ht hvm hw9 hB9 hz1 hk1 hS => ?_)
            revert u hw9 hB9
            refine fz_p4 ?_
            intro a266 f266 sg66 wd66 hw9 hB9
            try dsimp only at hw9 hB9
            have e9i : fT (fT (fT (fT (fT (fT (fT (fT (fT vi 110 1) 111 r38) 112 0) 17 (nI a266)) 19 (nI f266)) 20 sg66) 18 wd66) 21 s238) 22 p238 = fT (fT (fT (fT (fT (fT (fT (fT (fT (fT (fT (fT (fT vi 110 1) 111 r38) 112 0) 17 (nI a238)) 19 (nI f238)) 20 sg38) 18 wd38) 21 s238) 22 p238) 17 (nI a266)) 19 (nI f266)) 20 sg66) 18 wd66 := Eq.symm (Eq.trans (congrArg (fun g9 => fT g9 18 wd66) (Eq.trans (congrArg (fun g9 => fT g9 20 sg66) (Eq.trans (congrArg (fun g9 => fT g9 19 (nI f266)) (up_5 rfl)) (up_4 rfl))) (up_3 rfl))) (up_2 rfl))
            have hP := wr_Pi e9i (fz_P ht hB9.1)
            have hD := wr_Di e9i (hB9.2.weaken (fun _ q _ h => hFc q.1 h))
            clear e9i
            revert hw9
            refine fz_a2 ?_
            intro f66_0 f66_1
            refine lv_aload_n hx hb dX12_readPlaces_69 rfl (lv_at hl 0 rfl) ?_
            refine lv_aload_n hx hb dX12_readPlaces_70 rfl (lv_at hl 0 rfl) ?_
            have hFc := allFree hD hS hA
            refine va_calli (va_runV (As := []) (rest := [.ref h0]) ⟨hx, hb, hml, hown, hts⟩ (r_X12_readSet l dC dI a k h0 (fT (fT (fT (fT (fT (fT (fT (fT (fT vi 110 1) 111 r38) 112 0) 17 (nI a266)) 19 (nI f266)) 20 sg66) 18 wd66) 21 s238) 22 p238) vj vF vG tp a266 f266 nm se pa va hTp (by first | with_reducible assumption | decide | omega | rfl | assumption) rfl rfl (f66_0) (f38_2) hnm (by first | with_reducible assumption | decide | omega | rfl | assumption) (by first | with_reducible assumption | decide | omega | rfl | assumption) (by first | with_reducible assumption | decide | omega | rfl | assumption) H.size) (cwV 0 hts gwsRX12_readPlaces_2 rfl rfl rfl hd_yX12_readSet_RX12 (by decide +kernel)) (fz_preE (va_recv hK hP (ci := 12) (q0 := 0) rfl rfl) hP hK hD (fun a U g mk qE => qE.same rfl) (fun U hU9 hW => by rw [hU9]; exact (((hE : StrA A s s.heap).kept hS.2.1).narrow (fun q h => hFc q h)).warm hW)) rfl rfl hl.1 rfl (lv_room (Nat.le_of_ble_eq_true rfl)) dX12_readPlaces_71 (by decide +kernel)) hS (fun q _ h => hFc q h) hFc (fun r71 u t9_ H locs ht hvm hw9 hB9 hz1 hk1 hS => ?_)
            revert u hw9 hB9
            refine fz_p6 ?_
            intro a271 f271 sg71 wd71 s271 p271 hw9 hB9
            try dsimp only at hw9 hB9
            have e9i : fT (fT (fT (fT (fT (fT (fT (fT (fT vi 110 1) 111 r38) 112 0) 17 (nI a271)) 19 (nI f271)) 20 sg71) 18 wd71) 21 s271) 22 p271 = fT (fT (fT (fT (fT (fT (fT (fT (fT (fT (fT (fT (fT (fT (fT vi 110 1) 111 r38) 112 0) 17 (nI a266)) 19 (nI f266)) 20 sg66) 18 wd66) 21 s238) 22 p238) 17 (nI a271)) 19 (nI f271)) 20 sg71) 18 wd71) 21 s271) 22 p271 := Eq.symm (Eq.trans (congrArg (fun g9 => fT g9 22 p271) (Eq.trans (congrArg (fun g9 => fT g9 21 s271) (Eq.trans (congrArg (fun g9 => fT g9 18 wd71) (Eq.trans (congrArg (fun g9 => fT g9 20 sg71) (Eq.trans (congrArg (fun g9 => fT g9 19 (nI f271)) (up_5 rfl)) (up_4 rfl))) (up_3 rfl))) (up_2 rfl))) (up_1 rfl))) (up_0 rfl))
            have hP := wr_Pi e9i (fz_P ht hB9.1)
            have hD := wr_Di e9i (hB9.2.weaken (fun _ q _ h => hFc q.1 h))
            clear e9i
            revert hw9
            refine fz_a4 ?_
            intro f71_0 f71_1 f71_2 f71_3
            refine va_put (D := (dC, dI)) (ci := 12) (v := .int r71) (ty := .int) (C := RX12) (T := TX12) (N := 163) (fs := fM (vS a (fT (fT (fT (fT (fT (fT (fT (fT (fT vi 110 1) 111 r38) 112 0) 17 (nI a271)) 19 (nI f271)) 20 sg71) 18 wd71) 21 s271) 22 p271) vj)) hx hb hts iwsRX12_readPlaces_in12 tyX12 tyX12_ok nmX12 hown hK hP hD hS 0 rfl rfl 112 (by decide) (hts _ hm_r_X12_readPlaces_2) (fun _ h9 => h9) rfl (by decide +kernel) rfl rfl (Nat.le_of_ble_eq_true rfl) dX12_readPlaces_74 (fun H locs hP hD hS => ?_)
            have e9 : fT (fT (fT (fT (fT (fT (fT (fT (fT vi 110 1) 111 r38) 112 r71) 17 (nI a271)) 19 (nI f271)) 20 sg71) 18 wd71) 21 s271) 22 p271 = fT (fT (fT (fT (fT (fT (fT (fT (fT (fT vi 110 1) 111 r38) 112 0) 17 (nI a271)) 19 (nI f271)) 20 sg71) 18 wd71) 21 s271) 22 p271) 112 r71 := Eq.symm (up_6 rfl)
            have hP := wr_Pi e9 (fz_w (WR_i 112 _ rfl) hP)
            have hD := wr_Di e9 (fz_wD (WR_i 112 _ rfl) hD)
            clear e9
            refine lv_aload_n hx hb dX12_readPlaces_77 rfl (lv_at hl 0 rfl) ?_
            refine lv_iconst (v := 2) hx hb dX12_readPlaces_78 (by decide) ?_
            refine va_put (D := (dC, dI)) (ci := 12) (v := .int 2) (ty := .int) (C := RX12) (T := TX12) (N := 163) (fs := fM (vS a (fT (fT (fT (fT (fT (fT (fT (fT (fT vi 110 1) 111 r38) 112 r71) 17 (nI a271)) 19 (nI f271)) 20 sg71) 18 wd71) 21 s271) 22 p271) vj)) hx hb hts iwsRX12_readPlaces_in12 tyX12 tyX12_ok nmX12 hown hK hP hD hS 0 rfl rfl 110 (by decide) (hts _ hm_r_X12_readPlaces_0) (fun _ h9 => h9) rfl (by decide +kernel) rfl rfl (Nat.le_of_ble_eq_true rfl) dX12_readPlaces_79 (fun H locs hP hD hS => ?_)
            have e9 : fT (fT (fT (fT (fT (fT (fT (fT (fT vi 110 2) 111 r38) 112 r71) 17 (nI a271)) 19 (nI f271)) 20 sg71) 18 wd71) 21 s271) 22 p271 = fT (fT (fT (fT (fT (fT (fT (fT (fT (fT vi 110 1) 111 r38) 112 r71) 17 (nI a271)) 19 (nI f271)) 20 sg71) 18 wd71) 21 s271) 22 p271) 110 2 := Eq.symm (up_8 rfl)
            have hP := wr_Pi e9 (fz_w (WR_i 110 _ rfl) hP)
            have hD := wr_Di e9 (fz_wD (WR_i 110 _ rfl) hD)
            clear e9
            have hl : lv_has _ _ ([(0, .ref h0)]) := lv_sub hl [0] rfl
            exact join1 _ _ _ _ ⟨a271, f271, wd71, sg71, s271, 2, r71, p271, f71_0, by (have h9 := f38_0.1); (have h8 := f66_1); (have h7 := f66_0.1); (have h6 := f71_1); omega, f71_2, by (obtain ⟨_, _, o1, h7, h6⟩ := f38_3.resolve_left (fun h => by omega)); rcases f71_3 with h9 | ⟨_, _, o2, h5, h4⟩; (exact Or.inl h9); (exact Or.inr ⟨2, o1, o2, by decide, h6, h4, by omega, by omega, by omega, fun _ => h7, fun _ => h5⟩), rfl, hP, hD, hS, hl⟩
          · have f59_0 : ¬ (wd38.toInt = 4 ∧ sg38 = 44) := f59_0
            refine lv_if_eq (tgt := 82) hx hb dX12_readPlaces_62 (by decide) (fun _ => ?_) (fun c9 => absurd (by decide) c9)
            have hl : lv_has _ _ ([(0, .ref h0)]) := lv_sub hl [0] rfl
            exact join1 _ _ _ _ ⟨a238, f238, wd38, sg38, s238, 1, 0, p238, f38_0, by omega, f38_2, by rcases f38_3 with h9 | ⟨_, _, o1, h7, h6⟩; (exact Or.inl h9); (exact Or.inr ⟨1, o1, 0, by decide, h6, by decide, by omega, by omega, by omega, fun _ => h7, fun h9 => absurd h9 (by omega)⟩), rfl, hP, hD, hS, hl⟩
      · rintro H locs ls stk ⟨a6, f6, w6, g6, s6, ps6, pt6, j1_i22, hLx6, hf6, hs6, hpl6, rfl, hP, hD, hS, hl⟩
        refine lv_aload_n hx hb dX12_readPlaces_82 rfl (lv_at hl 0 rfl) ?_
        refine lv_bipush (v := 93) hx hb dX12_readPlaces_83 (by decide) ?_
        have hFc := allFree hD hS hA
        refine va_calli (va_runV (As := [.int 93]) (rest := []) ⟨hx, hb, hml, hown, hts⟩ (r_X12_needSign l dC dI a k h0 (fT (fT (fT (fT (fT (fT (fT (fT (fT vi 110 ps6) 111 r38) 112 pt6) 17 (nI a6)) 19 (nI f6)) 20 g6) 18 w6) 21 s6) 22 j1_i22) vj vF vG 93 tp a6 f6 hTp (by first | with_reducible assumption | decide | omega | rfl | assumption) rfl rfl (hLx6) (hs6) H.size) (cwV 1 hts gwsRX12_readPlaces_3 rfl rfl rfl hd_yX12_needSign_RX12 (by decide +kernel)) (fz_preE (va_recv hK hP (ci := 12) (q0 := 0) rfl rfl) hP hK hD (fun a U g mk qE => qE.same rfl) (fun U hU9 hW => by rw [hU9]; exact (((hE : StrA A s s.heap).kept hS.2.1).narrow (fun q h => hFc q h)).warm hW)) rfl rfl hl.1 rfl (lv_room (Nat.le_of_ble_eq_true rfl)) dX12_readPlaces_85 (by decide +kernel)) hS (fun q _ h => hFc q h) hFc (fun r85 u t9_ H locs ht hvm hw9 hB9 hz1 hk1 hS => ?_)
        revert u hw9 hB9
        refine fz_p6 ?_
        intro a285 f285 sg85 wd85 s285 p285 hw9 hB9
        try dsimp only at hw9 hB9
        have e9i : fT (fT (fT (fT (fT (fT (fT (fT (fT vi 110 ps6) 111 r38) 112 pt6) 17 (nI a285)) 19 (nI f285)) 20 sg85) 18 wd85) 21 s285) 22 p285 = fT (fT (fT (fT (fT (fT (fT (fT (fT (fT (fT (fT (fT (fT (fT vi 110 ps6) 111 r38) 112 pt6) 17 (nI a6)) 19 (nI f6)) 20 g6) 18 w6) 21 s6) 22 j1_i22) 17 (nI a285)) 19 (nI f285)) 20 sg85) 18 wd85) 21 s285) 22 p285 := Eq.symm (Eq.trans (congrArg (fun g9 => fT g9 22 p285) (Eq.trans (congrArg (fun g9 => fT g9 21 s285) (Eq.trans (congrArg (fun g9 => fT g9 18 wd85) (Eq.trans (congrArg (fun g9 => fT g9 20 sg85) (Eq.trans (congrArg (fun g9 => fT g9 19 (nI f285)) (up_5 rfl)) (up_4 rfl))) (up_3 rfl))) (up_2 rfl))) (up_1 rfl))) (up_0 rfl))
        have hP := wr_Pi e9i (fz_P ht hB9.1)
        have hD := wr_Di e9i (hB9.2.weaken (fun _ q _ h => hFc q.1 h))
        clear e9i
        rcases hw9 with ⟨rfl, f85_0, f85_1, f85_2, f85_3⟩ | ⟨rfl, f85_0, f85_1, f85_2⟩
        · have f85_3 : s6 = 0 := f85_3
          refine lv_pop hx hb dX12_readPlaces_88 rfl ?_
          refine W.widen (k := 0) (n := 0) (by decide +kernel) (by decide +kernel) ?_
          exact W.vret hx hb hr (fun t9_ ht hW => ⟨⟨(a285, f285, sg85, wd85, s285, p285, ps6, r38, pt6), rfl, by (try dsimp only); (have hg6 := hLx6.1); first | (exact ⟨f85_1, by omega, by omega, Or.inl f85_0⟩) | (exact ⟨f85_1, by omega, by (have h5 : (s285).toInt = 0 := by rw [f85_0]; decide); omega, by rcases hpl6 with h9 | h9; (exfalso; rw [f85_3] at h9; exact absurd h9 (by decide)); (exact Or.inr ⟨f85_0, i32z (by omega), h9⟩)⟩), by rw [ht]; exact hP, hD⟩, hS.F ht⟩) hS.2.2 dX12_readPlaces_89
        · refine lv_pop hx hb dX12_readPlaces_88 rfl ?_
          refine W.widen (k := 0) (n := 0) (by decide +kernel) (by decide +kernel) ?_
          exact W.vret hx hb hr (fun t9_ ht hW => ⟨⟨(a285, f285, sg85, wd85, s285, p285, ps6, r38, pt6), rfl, by (try dsimp only); (have hg6 := hLx6.1); first | (exact ⟨f85_1, by omega, by omega, Or.inl f85_0⟩) | (exact ⟨f85_1, by omega, by (have h5 : (s285).toInt = 0 := by rw [f85_0]; decide); omega, by rcases hpl6 with h9 | h9; (exfalso; rw [f85_3] at h9; exact absurd h9 (by decide)); (exact Or.inr ⟨f85_0, i32z (by omega), h9⟩)⟩), by rw [ht]; exact hP, hD⟩, hS.F ht⟩) hS.2.2 dX12_readPlaces_89
    · have f25_0 : ¬ ((vi 18).toInt = 4 ∧ (vi 20) = 91) := f25_0
      refine lv_if_ne (tgt := 32) hx hb dX12_readPlaces_28 (by decide) (fun c9 => absurd c9 (by decide)) (fun _ => ?_)
      refine W.widen (k := 0) (n := 0) (by decide +kernel) (by decide +kernel) ?_
      have e9 : fT (fT (fT (fT (fT (fT (fT (fT (fT vi 110 0) 111 0) 112 0) 17 (nI an)) 19 (nI fn)) 20 (vi 20)) 18 (vi 18)) 21 (vi 21)) 22 (vi 22) = fT (fT (fT vi 110 0) 111 0) 112 0 := Eq.trans (mv_5 rfl) (Eq.trans (congrArg (fT _ 17) (show nI an = vi 17 from (by first | with_reducible rfl | with_reducible assumption | (symm; with_reducible assumption) | rfl | assumption | (symm; assumption) | (subst_vars; rfl)))) (Eq.trans (id_8 rfl) (Eq.trans (mv_4 rfl) (Eq.trans (congrArg (fT _ 19) (show nI fn = vi 19 from (by first | with_reducible rfl | with_reducible assumption | (symm; with_reducible assumption) | rfl | assumption | (symm; assumption) | (subst_vars; rfl)))) (Eq.trans (id_7 rfl) (Eq.trans (mv_3 rfl) (Eq.trans (id_6 rfl) (Eq.trans (mv_2 rfl) (Eq.trans (id_5 rfl) (Eq.trans (mv_1 rfl) (Eq.trans (id_4 rfl) (id_3 rfl))))))))))))
      have hP := wr_Pi e9 hP
      have hD := wr_Di e9 hD
      clear e9
      exact W.vret hx hb hr (fun t9_ ht hW => ⟨⟨(an, fn, (vi 20), (vi 18), (vi 21), (vi 22), 0, 0, 0), rfl, by (try dsimp only); exact ⟨hLx, Nat.le_refl _, hst0, Or.inr ⟨i32z (by omega), i32z (by omega), 0, 0, 0, by decide, by decide, by decide, by omega, by omega, by omega, fun h9 => absurd h9 (by omega), fun h9 => absurd h9 (by omega)⟩⟩, by rw [ht]; exact hP, hD⟩, hS.F ht⟩) hS.2.2 dX12_readPlaces_31
theorem dX12_whole1_0 : decode cX12_whole1 0 = .ok (.aload_n 0, 1) := dk_42 (by decide +kernel)
theorem dX12_whole1_1 : decode cX12_whole1 1 = .ok (.getfield 170, 3) := dk_180 (by decide +kernel)
theorem dX12_whole1_4 : decode cX12_whole1 4 = .ok (.iload_n 1, 1) := dk_27 (by decide +kernel)
theorem dX12_whole1_5 : decode cX12_whole1 5 = .ok (.iaload, 1) := dk_46 (by decide +kernel)
theorem dX12_whole1_6 : decode cX12_whole1 6 = .ok (.i2l, 1) := dk_133 (by decide +kernel)
theorem dX12_whole1_7 : decode cX12_whole1 7 = .ok (.aload_n 0, 1) := dk_42 (by decide +kernel)
theorem dX12_whole1_8 : decode cX12_whole1 8 = .ok (.getfield 173, 3) := dk_180 (by decide +kernel)
theorem dX12_whole1_11 : decode cX12_whole1 11 = .ok (.bipush 9, 2) := dk_16 (by decide +kernel)
theorem dX12_whole1_13 : decode cX12_whole1 13 = .ok (.iload_n 1, 1) := dk_27 (by decide +kernel)
theorem dX12_whole1_14 : decode cX12_whole1 14 = .ok (.iadd, 1) := dk_96 (by decide +kernel)
theorem dX12_whole1_15 : decode cX12_whole1 15 = .ok (.iaload, 1) := dk_46 (by decide +kernel)
theorem dX12_whole1_16 : decode cX12_whole1 16 = .ok (.i2l, 1) := dk_133 (by decide +kernel)
theorem dX12_whole1_17 : decode cX12_whole1 17 = .ok (.lmul, 1) := dk_105 (by decide +kernel)
theorem dX12_whole1_18 : decode cX12_whole1 18 = .ok (.aload_n 0, 1) := dk_42 (by decide +kernel)
theorem dX12_whole1_19 : decode cX12_whole1 19 = .ok (.getfield 170, 3) := dk_180 (by decide +kernel)
theorem dX12_whole1_22 : decode cX12_whole1 22 = .ok (.bipush 9, 2) := dk_16 (by decide +kernel)
theorem dX12_whole1_24 : decode cX12_whole1 24 = .ok (.iload_n 1, 1) := dk_27 (by decide +kernel)
theorem dX12_whole1_25 : decode cX12_whole1 25 = .ok (.iadd, 1) := dk_96 (by decide +kernel)
theorem dX12_whole1_26 : decode cX12_whole1 26 = .ok (.iaload, 1) := dk_46 (by decide +kernel)
theorem dX12_whole1_27 : decode cX12_whole1 27 = .ok (.i2l, 1) := dk_133 (by decide +kernel)
theorem dX12_whole1_28 : decode cX12_whole1 28 = .ok (.aload_n 0, 1) := dk_42 (by decide +kernel)
theorem dX12_whole1_29 : decode cX12_whole1 29 = .ok (.getfield 173, 3) := dk_180 (by decide +kernel)
theorem dX12_whole1_32 : decode cX12_whole1 32 = .ok (.iload_n 1, 1) := dk_27 (by decide +kernel)
theorem dX12_whole1_33 : decode cX12_whole1 33 = .ok (.iaload, 1) := dk_46 (by decide +kernel)
theorem dX12_whole1_34 : decode cX12_whole1 34 = .ok (.i2l, 1) := dk_133 (by decide +kernel)
theorem dX12_whole1_35 : decode cX12_whole1 35 = .ok (.lmul, 1) := dk_105 (by decide +kernel)
theorem dX12_whole1_36 : decode cX12_whole1 36 = .ok (.lsub, 1) := dk_101 (by decide +kernel)
theorem dX12_whole1_37 : decode cX12_whole1 37 = .ok (.lstore_n 2, 1) := dk_65 (by decide +kernel)
theorem dX12_whole1_38 : decode cX12_whole1 38 = .ok (.aload_n 0, 1) := dk_42 (by decide +kernel)
theorem dX12_whole1_39 : decode cX12_whole1 39 = .ok (.getfield 173, 3) := dk_180 (by decide +kernel)
theorem dX12_whole1_42 : decode cX12_whole1 42 = .ok (.iload_n 1, 1) := dk_27 (by decide +kernel)
theorem dX12_whole1_43 : decode cX12_whole1 43 = .ok (.iaload, 1) := dk_46 (by decide +kernel)
theorem dX12_whole1_44 : decode cX12_whole1 44 = .ok (.i2l, 1) := dk_133 (by decide +kernel)
theorem dX12_whole1_45 : decode cX12_whole1 45 = .ok (.aload_n 0, 1) := dk_42 (by decide +kernel)
theorem dX12_whole1_46 : decode cX12_whole1 46 = .ok (.getfield 173, 3) := dk_180 (by decide +kernel)
theorem dX12_whole1_49 : decode cX12_whole1 49 = .ok (.bipush 9, 2) := dk_16 (by decide +kernel)
theorem dX12_whole1_51 : decode cX12_whole1 51 = .ok (.iload_n 1, 1) := dk_27 (by decide +kernel)
theorem dX12_whole1_52 : decode cX12_whole1 52 = .ok (.iadd, 1) := dk_96 (by decide +kernel)
theorem dX12_whole1_53 : decode cX12_whole1 53 = .ok (.iaload, 1) := dk_46 (by decide +kernel)
theorem dX12_whole1_54 : decode cX12_whole1 54 = .ok (.i2l, 1) := dk_133 (by decide +kernel)
theorem dX12_whole1_55 : decode cX12_whole1 55 = .ok (.lmul, 1) := dk_105 (by decide +kernel)
theorem dX12_whole1_56 : decode cX12_whole1 56 = .ok (.lstore 4, 2) := dk_55 (by decide +kernel)
theorem dX12_whole1_58 : decode cX12_whole1 58 = .ok (.lload_n 2, 1) := dk_32 (by decide +kernel)
theorem dX12_whole1_59 : decode cX12_whole1 59 = .ok (.lload 4, 2) := dk_22 (by decide +kernel)
theorem dX12_whole1_61 : decode cX12_whole1 61 = .ok (.invokestatic 626, 3) := dk_184 (by decide +kernel)
theorem dX12_whole1_64 : decode cX12_whole1 64 = .ok (.lstore 6, 2) := dk_55 (by decide +kernel)
theorem dX12_whole1_66 : decode cX12_whole1 66 = .ok (.aload_n 0, 1) := dk_42 (by decide +kernel)
theorem dX12_whole1_67 : decode cX12_whole1 67 = .ok (.bipush 10, 2) := dk_16 (by decide +kernel)
theorem dX12_whole1_69 : decode cX12_whole1 69 = .ok (.lload_n 2, 1) := dk_32 (by decide +kernel)
theorem dX12_whole1_70 : decode cX12_whole1 70 = .ok (.lload 6, 2) := dk_22 (by decide +kernel)
theorem dX12_whole1_72 : decode cX12_whole1 72 = .ok (.ldiv, 1) := dk_109 (by decide +kernel)
theorem dX12_whole1_73 : decode cX12_whole1 73 = .ok (.invokevirtual 369, 3) := dk_182 (by decide +kernel)
theorem dX12_whole1_76 : decode cX12_whole1 76 = .ok (.aload_n 0, 1) := dk_42 (by decide +kernel)
theorem dX12_whole1_77 : decode cX12_whole1 77 = .ok (.bipush 11, 2) := dk_16 (by decide +kernel)
theorem dX12_whole1_79 : decode cX12_whole1 79 = .ok (.lload 4, 2) := dk_22 (by decide +kernel)
theorem dX12_whole1_81 : decode cX12_whole1 81 = .ok (.lload 6, 2) := dk_22 (by decide +kernel)
theorem dX12_whole1_83 : decode cX12_whole1 83 = .ok (.ldiv, 1) := dk_109 (by decide +kernel)
theorem dX12_whole1_84 : decode cX12_whole1 84 = .ok (.invokevirtual 369, 3) := dk_182 (by decide +kernel)
theorem dX12_whole1_87 : decode cX12_whole1 87 = .ok (.aload_n 0, 1) := dk_42 (by decide +kernel)
theorem dX12_whole1_88 : decode cX12_whole1 88 = .ok (.bipush 13, 2) := dk_16 (by decide +kernel)
theorem dX12_whole1_90 : decode cX12_whole1 90 = .ok (.bipush 14, 2) := dk_16 (by decide +kernel)
theorem dX12_whole1_92 : decode cX12_whole1 92 = .ok (.bipush 19, 2) := dk_16 (by decide +kernel)
theorem dX12_whole1_94 : decode cX12_whole1 94 = .ok (.bipush 11, 2) := dk_16 (by decide +kernel)
theorem dX12_whole1_96 : decode cX12_whole1 96 = .ok (.invokevirtual 383, 3) := dk_182 (by decide +kernel)
theorem dX12_whole1_99 : decode cX12_whole1 99 = .ok (.aload_n 0, 1) := dk_42 (by decide +kernel)
theorem dX12_whole1_100 : decode cX12_whole1 100 = .ok (.bipush 17, 2) := dk_16 (by decide +kernel)
theorem dX12_whole1_102 : decode cX12_whole1 102 = .ok (.bipush 13, 2) := dk_16 (by decide +kernel)
theorem dX12_whole1_104 : decode cX12_whole1 104 = .ok (.bipush 10, 2) := dk_16 (by decide +kernel)
theorem dX12_whole1_106 : decode cX12_whole1 106 = .ok (.invokevirtual 390, 3) := dk_182 (by decide +kernel)
theorem dX12_whole1_109 : decode cX12_whole1 109 = .ok (.return_, 1) := dk_177 (by decide +kernel)
def wsRX12_whole1 : List Cond := .code yX12_whole1 cX12_whole1 8 none :: ([.fieldLink RX12 170 "OptimaWorksModel" "top" "[I", .fieldLink RX12 173 "OptimaWorksModel" "under" "[I"] ++ wsX120 ++ (va_wsS RX12 626 yX12_common1 wsRX12_common1) ++ (wsV RX12 369 RX12 yX12_put wsRX12_put) ++ (wsV RX12 383 RX12 yX12_divide wsRX12_divide) ++ (wsV RX12 390 RX12 yX12_times wsRX12_times))
theorem iwsRX12_whole1_in12 : ∀ w ∈ wsX120, w ∈ wsRX12_whole1 := fun _ h => List.mem_cons_of_mem _ (List.mem_append_left _ (List.mem_append_left _ (List.mem_append_left _ (List.mem_append_left _ (List.mem_append_right _ h)))))
theorem gwsRX12_whole1_0 : GoodIn wsRX12_whole1 (va_wsS RX12 626 yX12_common1 wsRX12_common1) := goodIn_sub (fun _ h => List.mem_cons_of_mem _ (List.mem_append_left _ (List.mem_append_left _ (List.mem_append_left _ (List.mem_append_right _ h))))) (gdS (by decide +kernel) gdwsRX12_common1)
theorem gwsRX12_whole1_1 : GoodIn wsRX12_whole1 (wsV RX12 369 RX12 yX12_put wsRX12_put) := goodIn_sub (fun _ h => List.mem_cons_of_mem _ (List.mem_append_left _ (List.mem_append_left _ (List.mem_append_right _ h)))) (gdV (by decide +kernel) gdwsRX12_put)
theorem gwsRX12_whole1_2 : GoodIn wsRX12_whole1 (wsV RX12 383 RX12 yX12_divide wsRX12_divide) := goodIn_sub (fun _ h => List.mem_cons_of_mem _ (List.mem_append_left _ (List.mem_append_right _ h))) (gdV (by decide +kernel) gdwsRX12_divide)
theorem gwsRX12_whole1_3 : GoodIn wsRX12_whole1 (wsV RX12 390 RX12 yX12_times wsRX12_times) := goodIn_sub (fun _ h => List.mem_cons_of_mem _ (List.mem_append_right _ h)) (gdV (by decide +kernel) gdwsRX12_times)
theorem gdwsRX12_whole1 : wsRX12_whole1.all goodWord = true := gdC rfl (gdA (gdA (gdA (gdA (gdA (by decide +kernel : ([.fieldLink RX12 170 "OptimaWorksModel" "top" "[I", .fieldLink RX12 173 "OptimaWorksModel" "under" "[I"] : List Cond).all goodWord = true) gdwsX120) (gdS (by decide +kernel) gdwsRX12_common1)) (gdV (by decide +kernel) gdwsRX12_put)) (gdV (by decide +kernel) gdwsRX12_divide)) (gdV (by decide +kernel) gdwsRX12_times))
theorem hm_r_X12_whole1_0 : (.fieldLink RX12 170 "OptimaWorksModel" "top" "[I" : Cond) ∈ wsRX12_whole1 := by decide +kernel
theorem hm_r_X12_whole1_1 : (.fieldLink RX12 173 "OptimaWorksModel" "under" "[I" : Cond) ∈ wsRX12_whole1 := by decide +kernel
set_option maxHeartbeats 4000000 in
set_option maxRecDepth 100000 in
/-- whole1(k) -/
theorem r_X12_whole1 (l : Launch) (dC : Nat → ClassId) (dI : Nat → Nat → Nat) (a : Nat → Nat) (k : Nat → ClassId) (h0 : Nat) (vi : Nat → Int32) (vj : Nat → Int64) (vF : Nat → Nat → Int32) (vG : Nat → Nat → Int64) (kN : Nat) (mg : Nat → Int) (hBg : Bg (vF 0) mg) (hkN : kN < 9) (hR0 : RowU (vF 49) (vF 50) 0) (hR1 : RowU (vF 49) (vF 50) 1) (h19b : (mg 19).natAbs < 2 ^ 380) (sz : Nat) : Met l yX12_whole1 wsRX12_whole1 ({ frames := 2, cells := 0, slots := 0, locals := 62 }) (va_Pc [.ref h0, .int (nI kN)] (fun U => U.heap.size = sz ∧ va_P (dC, dI) vwCl (WR a k h0 vi vj vF vG) U.heap ∧ va_K (dC, dI) vwCl (tX12 k) U ∧ va_D (fun _ => True) (WR a k h0 vi vj vF vG))) (va_Qv (fun (u : (Nat → Int32) × (Nat → Int32) × (Nat → Int32) × (Nat → Int64) × (Nat → Int)) => (Bg (u.1) (u.2.2.2.2)) ∧ (∀ q, (q < 10 ∨ 14 < q) → q ≠ 17 → (u.2.2.2.2) q = mg q)) (fun (u : (Nat → Int32) × (Nat → Int32) × (Nat → Int32) × (Nat → Int64) × (Nat → Int)) t => va_P (dC, dI) vwCl (WR a k h0 vi vj (fT (fT (fT vF 0 (u.1)) 2 (u.2.1)) 3 (u.2.2.1)) (fT vG 1 (u.2.2.2.1))) t.heap ∧ va_D (va_A (WR a k h0 vi vj vF vG) sz) (WR a k h0 vi vj (fT (fT (fT vF 0 (u.1)) 2 (u.2.1)) 3 (u.2.2.1)) (fT vG 1 (u.2.2.2.1)))) (va_A (WR a k h0 vi vj vF vG) sz)) 0 0 (va_A (WR a k h0 vi vj vF vG) sz) := by
  refine Met.ofW (cc := cX12_whole1) (maxL := 8) (ret := none) (by decide) rfl ?_
  intro p e s m args below meth c s₁ B hml hv
  obtain ⟨rfl, hsz, hP, hK, hD0⟩ := hv
  have hx := B.exec
  have hb := B.bytes
  have hr := B.returns
  have hts := atoms_spec (ws := wsRX12_whole1) B.pre
  have hown : s.vm.findClass RX12 = some m.cls := findClass_of_methodNamed B.named
  have hlocks := B.notSynchronized
  subst hsz
  have hD := hD0.self (sz := s.heap.size)
  generalize hAe : va_A (WR a k h0 vi vj vF vG) s.heap.size = A at hD ⊢
  have hA : ∀ q : Nat, s.heap.size ≤ q → A q := fun q h => by rw [← hAe]; exact Or.inr h
  have hS : va_S A s.heap s.heap [] := va_S.rf
  have hl := lv_entry ([.ref h0, .int (nI kN)]) (n := 8) (Nat.le_of_ble_eq_true rfl)
  rw [lg_entry_eq]
  generalize (lg_sl ([.ref h0, .int (nI kN)]) ++ List.replicate (8 - (lg_sl ([.ref h0, .int (nI kN)])).length) Slot.unset).toArray = ls at hl ⊢
  have hl : lv_has ls 8 [(0, .ref h0), (1, .int (nI kN))] := hl
  have r0 := hR0 kN (by omega)
  have r1 := hR1 kN (by omega)
  rw [Nat.mul_zero, Nat.zero_add] at r0
  rw [Nat.mul_one] at r1
  have b1 : ((vF 49 kN).toInt * (vF 50 (9 + kN)).toInt).natAbs ≤ 2000000 * 2000000 := mul_box (by omega) (by omega)
  have b2 : ((vF 49 (9 + kN)).toInt * (vF 50 kN).toInt).natAbs ≤ 2000000 * 2000000 := mul_box (by omega) (by omega)
  have b3 : ((vF 50 kN).toInt * (vF 50 (9 + kN)).toInt).natAbs ≤ 2000000 * 2000000 := mul_box (by omega) (by omega)
  have b4 : 0 < (vF 50 kN).toInt * (vF 50 (9 + kN)).toInt := Int.mul_pos (by omega) (by omega)
  have m1 := mulI (x := (vF 49 kN)) (y := (vF 50 (9 + kN)))
  have m2 := mulI (x := (vF 49 (9 + kN))) (y := (vF 50 kN))
  have m3 := mulI (x := (vF 50 kN)) (y := (vF 50 (9 + kN)))
  refine lv_aload_n hx hb dX12_whole1_0 rfl (lv_at hl 0 rfl) ?_
  refine va_get (D := (dC, dI)) (ci := 12) (v := .ref (a 49)) (C := RX12) (T := TX12) (N := 163) (fs := fM (vS a vi vj)) hx hb hts iwsRX12_whole1_in12 hown hK hP 0 rfl rfl 78 (by decide) (hts _ hm_r_X12_whole1_0) (fun _ h9 => h9) rfl dX12_whole1_1 ?_
  refine lv_iload_n hx hb dX12_whole1_4 rfl (lv_at hl 1 rfl) ?_
  refine va_iald (cA := k 49) (n := 900) (f := (vF 49)) hx hb hK hP 50 49 (WR_get 49 (by decide)) (TR_get 49 (by decide)) (vp_in_nI (show kN < 900 by omega) (by omega)) dX12_whole1_5 ?_
  refine lv_topi (fun y1 hy1 => ?_)
  obtain rfl : ((vF 49) kN) = y1 := (hy1.trans (by rw [nI_clamp (by omega)])).symm
  refine lv_i2l hx hb dX12_whole1_6 rfl ?_
  refine lv_aload_n hx hb dX12_whole1_7 rfl (lv_at hl 0 rfl) ?_
  refine va_get (D := (dC, dI)) (ci := 12) (v := .ref (a 50)) (C := RX12) (T := TX12) (N := 163) (fs := fM (vS a vi vj)) hx hb hts iwsRX12_whole1_in12 hown hK hP 0 rfl rfl 79 (by decide) (hts _ hm_r_X12_whole1_1) (fun _ h9 => h9) rfl dX12_whole1_8 ?_
  refine lv_bipush (v := 9) hx hb dX12_whole1_11 (by decide) ?_
  refine lv_iload_n hx hb dX12_whole1_13 rfl (lv_at hl 1 rfl) ?_
  refine lv_iadd hx hb dX12_whole1_14 ?_
  refine lv_topi (fun y2 hy2 => ?_)
  obtain rfl : (nI (9 + kN)) = y2 := (hy2.trans (nI_add 9 kN)).symm
  refine va_iald (cA := k 50) (n := 900) (f := (vF 50)) hx hb hK hP 51 50 (WR_get 50 (by decide)) (TR_get 50 (by decide)) (vp_in_nI (show (9 + kN) < 900 by omega) (by omega)) dX12_whole1_15 ?_
  refine lv_topi (fun y3 hy3 => ?_)
  obtain rfl : ((vF 50) (9 + kN)) = y3 := (hy3.trans (by rw [nI_clamp (by omega)])).symm
  refine lv_i2l hx hb dX12_whole1_16 rfl ?_
  refine lv_lmul hx hb dX12_whole1_17 ?_
  refine lv_aload_n hx hb dX12_whole1_18 rfl (lv_at hl 0 rfl) ?_
  refine va_get (D := (dC, dI)) (ci := 12) (v := .ref (a 49)) (C := RX12) (T := TX12) (N := 163) (fs := fM (vS a vi vj)) hx hb hts iwsRX12_whole1_in12 hown hK hP 0 rfl rfl 78 (by decide) (hts _ hm_r_X12_whole1_0) (fun _ h9 => h9) rfl dX12_whole1_19 ?_
  refine lv_bipush (v := 9) hx hb dX12_whole1_22 (by decide) ?_
  refine lv_iload_n hx hb dX12_whole1_24 rfl (lv_at hl 1 rfl) ?_
  refine lv_iadd hx hb dX12_whole1_25 ?_
  refine lv_topi (fun y4 hy4 => ?_)
  obtain rfl : (nI (9 + kN)) = y4 := (hy4.trans (nI_add 9 kN)).symm
  refine va_iald (cA := k 49) (n := 900) (f := (vF 49)) hx hb hK hP 50 49 (WR_get 49 (by decide)) (TR_get 49 (by decide)) (vp_in_nI (show (9 + kN) < 900 by omega) (by omega)) dX12_whole1_26 ?_
  refine lv_topi (fun y5 hy5 => ?_)
  obtain rfl : ((vF 49) (9 + kN)) = y5 := (hy5.trans (by rw [nI_clamp (by omega)])).symm
  refine lv_i2l hx hb dX12_whole1_27 rfl ?_
  refine lv_aload_n hx hb dX12_whole1_28 rfl (lv_at hl 0 rfl) ?_
  refine va_get (D := (dC, dI)) (ci := 12) (v := .ref (a 50)) (C := RX12) (T := TX12) (N := 163) (fs := fM (vS a vi vj)) hx hb hts iwsRX12_whole1_in12 hown hK hP 0 rfl rfl 79 (by decide) (hts _ hm_r_X12_whole1_1) (fun _ h9 => h9) rfl dX12_whole1_29 ?_
  refine lv_iload_n hx hb dX12_whole1_32 rfl (lv_at hl 1 rfl) ?_
  refine va_iald (cA := k 50) (n := 900) (f := (vF 50)) hx hb hK hP 51 50 (WR_get 50 (by decide)) (TR_get 50 (by decide)) (vp_in_nI (show kN < 900 by omega) (by omega)) dX12_whole1_33 ?_
  refine lv_topi (fun y6 hy6 => ?_)
  obtain rfl : ((vF 50) kN) = y6 := (hy6.trans (by rw [nI_clamp (by omega)])).symm
  refine lv_i2l hx hb dX12_whole1_34 rfl ?_
  refine lv_lmul hx hb dX12_whole1_35 ?_
  refine lv_lsub hx hb dX12_whole1_36 ?_
  obtain ⟨nL, hnL⟩ : ∃ nL, nL = ((((((vF 49) kN)).toInt64 * (((vF 50) (9 + kN))).toInt64) - ((((vF 49) (9 + kN))).toInt64 * (((vF 50) kN)).toInt64)) : Int64) := ⟨_, rfl⟩
  have en : nL.toInt = (vF 49 kN).toInt * (vF 50 (9 + kN)).toInt - (vF 49 (9 + kN)).toInt * (vF 50 kN).toInt := by rw [hnL, sub64 (by omega) (by omega), m1, m2]
  refine lv_topl (fun y7 hy7 => ?_)
  obtain rfl : nL = y7 := (hy7.trans (hnL.symm)).symm
  refine lv_lstore_n hx hb dX12_whole1_37 rfl hl (by decide) rfl (fun ls (hl : lv_has ls _ ([(2, .long nL), (0, .ref h0), (1, .int (nI kN))])) => ?_)
  refine lv_aload_n hx hb dX12_whole1_38 rfl (lv_at hl 1 rfl) ?_
  refine va_get (D := (dC, dI)) (ci := 12) (v := .ref (a 50)) (C := RX12) (T := TX12) (N := 163) (fs := fM (vS a vi vj)) hx hb hts iwsRX12_whole1_in12 hown hK hP 0 rfl rfl 79 (by decide) (hts _ hm_r_X12_whole1_1) (fun _ h9 => h9) rfl dX12_whole1_39 ?_
  refine lv_iload_n hx hb dX12_whole1_42 rfl (lv_at hl 2 rfl) ?_
  refine va_iald (cA := k 50) (n := 900) (f := (vF 50)) hx hb hK hP 51 50 (WR_get 50 (by decide)) (TR_get 50 (by decide)) (vp_in_nI (show kN < 900 by omega) (by omega)) dX12_whole1_43 ?_
  refine lv_topi (fun y8 hy8 => ?_)
  obtain rfl : ((vF 50) kN) = y8 := (hy8.trans (by rw [nI_clamp (by omega)])).symm
  refine lv_i2l hx hb dX12_whole1_44 rfl ?_
  refine lv_aload_n hx hb dX12_whole1_45 rfl (lv_at hl 1 rfl) ?_
  refine va_get (D := (dC, dI)) (ci := 12) (v := .ref (a 50)) (C := RX12) (T := TX12) (N := 163) (fs := fM (vS a vi vj)) hx hb hts iwsRX12_whole1_in12 hown hK hP 0 rfl rfl 79 (by decide) (hts _ hm_r_X12_whole1_1) (fun _ h9 => h9) rfl dX12_whole1_46 ?_
  refine lv_bipush (v := 9) hx hb dX12_whole1_49 (by decide) ?_
  refine lv_iload_n hx hb dX12_whole1_51 rfl (lv_at hl 2 rfl) ?_
  refine lv_iadd hx hb dX12_whole1_52 ?_
  refine lv_topi (fun y9 hy9 => ?_)
  obtain rfl : (nI (9 + kN)) = y9 := (hy9.trans (nI_add 9 kN)).symm
  refine va_iald (cA := k 50) (n := 900) (f := (vF 50)) hx hb hK hP 51 50 (WR_get 50 (by decide)) (TR_get 50 (by decide)) (vp_in_nI (show (9 + kN) < 900 by omega) (by omega)) dX12_whole1_53 ?_
  refine lv_topi (fun y10 hy10 => ?_)
  obtain rfl : ((vF 50) (9 + kN)) = y10 := (hy10.trans (by rw [nI_clamp (by omega)])).symm
  refine lv_i2l hx hb dX12_whole1_54 rfl ?_
  refine lv_lmul hx hb dX12_whole1_55 ?_
  obtain ⟨dL, hdL⟩ : ∃ dL, dL = (((((vF 50) kN)).toInt64 * (((vF 50) (9 + kN))).toInt64) : Int64) := ⟨_, rfl⟩
  have ed : dL.toInt = (vF 50 kN).toInt * (vF 50 (9 + kN)).toInt := by rw [hdL, m3]
  refine lv_topl (fun y11 hy11 => ?_)
  obtain rfl : dL = y11 := (hy11.trans (hdL.symm)).symm
  refine lv_lstore hx hb dX12_whole1_56 hl (by decide) rfl (fun ls (hl : lv_has ls _ ([(4, .long dL), (2, .long nL), (0, .ref h0), (1, .int (nI kN))])) => ?_)
  refine lv_lload_n hx hb dX12_whole1_58 rfl (lv_at hl 1 rfl) ?_
  refine lv_lload hx hb dX12_whole1_59 (lv_at hl 0 rfl) ?_
  have hFc := noneFree hS hA
  refine va_calll (va_runS (As := [.long nL, .long dL]) (rest := []) ⟨hx, hb, hml, hown, hts⟩ (r_X12_common1 l dC dI nL dL (by omega) (by omega) s.heap.size) (va_cwS 2 hts gwsRX12_whole1_0 rfl rfl rfl (by decide +kernel) ⟨by decide +kernel, by decide +kernel⟩) ⟨fun a U g mk q => by obtain ⟨q0, q1, qP, qK, qD⟩ := q; exact ⟨q0, q1, qP, va_K.moved (u := U) (U := U.calling g mk a) (Vm.Alike.refl U.vm) qK, qD⟩, fun U hU9 hW => ⟨rfl, by rw [hU9], by rw [hU9]; exact nilP, va_K.moved hW.alike (hK.sub (tys' := []) [] rfl), nilD⟩⟩ rfl rfl hl.1 rfl (lv_room (Nat.le_of_ble_eq_true rfl)) dX12_whole1_61 (by decide +kernel)) hS (fun q _ h => hFc q h) hFc (fun r61 u t9_ H1 locs ht hvm hw9 hB9 hz1 hk1 hS => ?_)
  have hP := keepAll hP hk1
  clear hB9
  generalize H1 = H at hP hS ⊢
  have hP : va_P (dC, dI) vwCl (WR a k h0 vi vj vF vG) H := hP
  have hD := fz_sd hP (hD) rfl
  have f61_0 := hw9
  try dsimp only at f61_0
  have hgp := gcd_pos (x := nL.toInt) (y := dL.toInt) (by omega)
  have hgl := gcd_le (x := nL.toInt) (y := dL.toInt) (by omega)
  have eg := f61_0
  refine lv_lstore hx hb dX12_whole1_64 hl (by decide) rfl (fun ls (hl : lv_has ls _ ([(6, .long r61), (4, .long dL), (2, .long nL), (0, .ref h0), (1, .int (nI kN))])) => ?_)
  refine lv_aload_n hx hb dX12_whole1_66 rfl (lv_at hl 3 rfl) ?_
  refine lv_bipush (v := 10) hx hb dX12_whole1_67 (by decide) ?_
  refine lv_lload_n hx hb dX12_whole1_69 rfl (lv_at hl 2 rfl) ?_
  refine lv_lload hx hb dX12_whole1_70 (lv_at hl 0 rfl) ?_
  refine lv_ldiv hx hb dX12_whole1_72 (by exact ne64 (by omega)) ?_
  have e10 : (nL / r61).toInt = nL.toInt.tdiv r61.toInt := (div64i (by omega) (by omega)).1
  have s10 := sh_le nL.toInt r61.toInt
  have hFc := allFree hD hS hA
  refine va_callv (va_runV (As := [.int 10, .long (nL / r61)]) (rest := []) ⟨hx, hb, hml, hown, hts⟩ (b_X12_put l dC dI a k h0 vi vj vF vG 10 (nL / r61) (nL.toInt.tdiv r61.toInt) mg hBg (by first | with_reducible assumption | decide | omega | rfl | assumption) (e10) (by omega) H.size) (cwV 2 hts gwsRX12_whole1_1 rfl rfl rfl hd_yX12_put_RX12 (by decide +kernel)) (fz_pre (va_recv hK hP (ci := 12) (q0 := 0) rfl rfl) hP hK hD) rfl rfl hl.1 rfl (lv_room (Nat.le_of_ble_eq_true rfl)) dX12_whole1_73 (by decide +kernel)) hS (fun q _ h => hFc q h) hFc (fun g73 t9_ H locs ht hvm hw9 hB9 hz1 hk1 hS => ?_)
  have hP : va_P (dC, dI) vwCl (WR a k h0 vi vj (fT vF 0 g73) vG) H := fz_P ht hB9.1
  have hD := fz_sd hP (hB9.2.weaken (fun _ q _ h => hFc q.1 h)) rfl
  have f73_0 := hw9
  try dsimp only at f73_0
  refine lv_aload_n hx hb dX12_whole1_76 rfl (lv_at hl 3 rfl) ?_
  refine lv_bipush (v := 11) hx hb dX12_whole1_77 (by decide) ?_
  refine lv_lload hx hb dX12_whole1_79 (lv_at hl 1 rfl) ?_
  refine lv_lload hx hb dX12_whole1_81 (lv_at hl 0 rfl) ?_
  refine lv_ldiv hx hb dX12_whole1_83 (by exact ne64 (by omega)) ?_
  have e11 : (dL / r61).toInt = dL.toInt.tdiv r61.toInt := (div64i (by omega) (by omega)).1
  have s11 := sh_le dL.toInt r61.toInt
  have p11 : 0 < dL.toInt.tdiv r61.toInt := tdiv_pos (by omega) (by omega) (by omega)
  have hFc := allFree hD hS hA
  refine va_callv (va_runV (As := [.int 11, .long (dL / r61)]) (rest := []) ⟨hx, hb, hml, hown, hts⟩ (b_X12_put l dC dI a k h0 vi vj (fT vF 0 g73) vG 11 (dL / r61) (dL.toInt.tdiv r61.toInt) (fT mg 10 (nL.toInt.tdiv r61.toInt)) f73_0 (by first | with_reducible assumption | decide | omega | rfl | assumption) (e11) (by omega) H.size) (cwV 2 hts gwsRX12_whole1_1 rfl rfl rfl hd_yX12_put_RX12 (by decide +kernel)) (fz_pre (va_recv hK hP (ci := 12) (q0 := 0) rfl rfl) hP hK hD) rfl rfl hl.1 rfl (lv_room (Nat.le_of_ble_eq_true rfl)) dX12_whole1_84 (by decide +kernel)) hS (fun q _ h => hFc q h) hFc (fun g84 t9_ H locs ht hvm hw9 hB9 hz1 hk1 hS => ?_)
  have e9F : fT vF 0 g84 = fT (fT vF 0 g73) 0 g84 := (fT_sm _ _ _ _).symm
  have hP := wr_PF e9F (fz_P ht hB9.1)
  have hD := wr_DF e9F (hB9.2.weaken (fun _ q _ h => hFc q.1 h))
  clear e9F
  have f84_0 := hw9
  try dsimp only at f84_0
  refine lv_aload_n hx hb dX12_whole1_87 rfl (lv_at hl 3 rfl) ?_
  refine lv_bipush (v := 13) hx hb dX12_whole1_88 (by decide) ?_
  refine lv_bipush (v := 14) hx hb dX12_whole1_90 (by decide) ?_
  refine lv_bipush (v := 19) hx hb dX12_whole1_92 (by decide) ?_
  refine lv_bipush (v := 11) hx hb dX12_whole1_94 (by decide) ?_
  have hFc := allFree hD hS hA
  refine va_callv (va_runV (As := [.int 13, .int 14, .int 19, .int 11]) (rest := []) ⟨hx, hb, hml, hown, hts⟩ (b_X12_divide l dC dI a k h0 vi vj (fT vF 0 g84) vG 13 14 19 11 (fT (fT mg 10 (nL.toInt.tdiv r61.toInt)) 11 (dL.toInt.tdiv r61.toInt)) f84_0 (mg 19) (dL.toInt.tdiv r61.toInt) (by rw [fT_ne _ _ (by omega), fT_ne _ _ (by omega)]) (by rw [fT_eq]) (by first | with_reducible assumption | decide | omega | rfl | assumption) (by first | with_reducible assumption | decide | omega | rfl | assumption) (by first | with_reducible assumption | decide | omega | rfl | assumption) (by first | with_reducible assumption | decide | omega | rfl | assumption) (by first | with_reducible assumption | decide | omega | rfl | assumption) (by first | with_reducible assumption | decide | omega | rfl | assumption) (by omega) H.size) (cwV 4 hts gwsRX12_whole1_2 rfl rfl rfl hd_yX12_divide_RX12 (by decide +kernel)) (fz_pre (va_recv hK hP (ci := 12) (q0 := 0) rfl rfl) hP hK hD) rfl rfl hl.1 rfl (lv_room (Nat.le_of_ble_eq_true rfl)) dX12_whole1_96 (by decide +kernel)) hS (fun q _ h => hFc q h) hFc (fun u t9_ H locs ht hvm hw9 hB9 hz1 hk1 hS => ?_)
  revert u hw9 hB9
  refine fz_p4 ?_
  intro g96 f2w96 f3w96 gs96 hw9 hB9
  try dsimp only at hw9 hB9
  have e9F : fT (fT (fT vF 0 g96) 2 f2w96) 3 f3w96 = fT (fT (fT (fT vF 0 g84) 2 f2w96) 3 f3w96) 0 g96 := ((fT_sw _ _ _ (Nat.ne_of_beq_eq_false rfl)).trans (congrArg (fun g9 => fT g9 3 f3w96) ((fT_sw _ _ _ (Nat.ne_of_beq_eq_false rfl)).trans (congrArg (fun g9 => fT g9 2 f2w96) (fT_sm _ _ _ _))))).symm
  have hP := wr_PF e9F (fz_P ht hB9.1)
  have hD := wr_DF e9F (hB9.2.weaken (fun _ q _ h => hFc q.1 h))
  clear e9F
  have f96_0 := hw9
  try dsimp only at f96_0
  refine lv_aload_n hx hb dX12_whole1_99 rfl (lv_at hl 3 rfl) ?_
  refine lv_bipush (v := 17) hx hb dX12_whole1_100 (by decide) ?_
  refine lv_bipush (v := 13) hx hb dX12_whole1_102 (by decide) ?_
  refine lv_bipush (v := 10) hx hb dX12_whole1_104 (by decide) ?_
  have hFc := allFree hD hS hA
  refine va_callv (va_runV (As := [.int 17, .int 13, .int 10]) (rest := []) ⟨hx, hb, hml, hown, hts⟩ (b_X12_times l dC dI a k h0 vi vj (fT (fT (fT vF 0 g96) 2 f2w96) 3 f3w96) (fT vG 1 gs96) 17 13 10 (fT (fT (fT (fT mg 10 (nL.toInt.tdiv r61.toInt)) 11 (dL.toInt.tdiv r61.toInt)) 13 (((mg 19)).tdiv (dL.toInt.tdiv r61.toInt))) 14 (((mg 19)).tmod (dL.toInt.tdiv r61.toInt))) f96_0 (((mg 19)).tdiv (dL.toInt.tdiv r61.toInt)) (nL.toInt.tdiv r61.toInt) (by rw [fT_ne _ _ (by omega), fT_eq]) (by rw [fT_ne _ _ (by omega), fT_ne _ _ (by omega), fT_ne _ _ (by omega), fT_eq]) (by first | with_reducible assumption | decide | omega | rfl | assumption) (by first | with_reducible assumption | decide | omega | rfl | assumption) (by first | with_reducible assumption | decide | omega | rfl | assumption) (mulpN (a := 380) (b := 50) (c := 588) (Nat.lt_of_le_of_lt (sh_le _ _) h19b) (Nat.lt_of_le_of_lt (show _ ≤ 8000000000000 by omega) (by decide)) (by decide)) H.size) (cwV 3 hts gwsRX12_whole1_3 rfl rfl rfl hd_yX12_times_RX12 (by decide +kernel)) (fz_pre (va_recv hK hP (ci := 12) (q0 := 0) rfl rfl) hP hK hD) rfl rfl hl.1 rfl (lv_room (Nat.le_of_ble_eq_true rfl)) dX12_whole1_106 (by decide +kernel)) hS (fun q _ h => hFc q h) hFc (fun u t9_ H locs ht hvm hw9 hB9 hz1 hk1 hS => ?_)
  revert u hw9 hB9
  refine fz_p2 ?_
  intro g106 gs106 hw9 hB9
  try dsimp only at hw9 hB9
  have e9F : fT (fT (fT vF 0 g106) 2 f2w96) 3 f3w96 = fT (fT (fT (fT vF 0 g96) 2 f2w96) 3 f3w96) 0 g106 := ((fT_sw _ _ _ (Nat.ne_of_beq_eq_false rfl)).trans (congrArg (fun g9 => fT g9 3 f3w96) ((fT_sw _ _ _ (Nat.ne_of_beq_eq_false rfl)).trans (congrArg (fun g9 => fT g9 2 f2w96) (fT_sm _ _ _ _))))).symm
  have e9G : fT vG 1 gs106 = fT (fT vG 1 gs96) 1 gs106 := (fT_sm _ _ _ _).symm
  have hP := wr_PG e9G (wr_PF e9F (fz_P ht hB9.1))
  have hD := wr_DG e9G (wr_DF e9F (hB9.2.weaken (fun _ q _ h => hFc q.1 h)))
  clear e9F e9G
  have f106_0 := hw9
  try dsimp only at f106_0
  refine W.widen (k := 0) (n := 0) (by decide +kernel) (by decide +kernel) ?_
  exact W.vret hx hb hr (fun t9_ ht hW => ⟨⟨(g106, f2w96, f3w96, gs106, (fT (fT (fT (fT (fT mg 10 (nL.toInt.tdiv r61.toInt)) 11 (dL.toInt.tdiv r61.toInt)) 13 (((mg 19)).tdiv (dL.toInt.tdiv r61.toInt))) 14 (((mg 19)).tmod (dL.toInt.tdiv r61.toInt))) 17 ((((mg 19)).tdiv (dL.toInt.tdiv r61.toInt)) * (nL.toInt.tdiv r61.toInt)))), rfl, by (try dsimp only); exact ⟨f106_0, fun q h1 h2 => by (rw [fT_ne _ _ (by omega), fT_ne _ _ (by omega), fT_ne _ _ (by omega), fT_ne _ _ (by omega), fT_ne _ _ (by omega)])⟩, by rw [ht]; exact hP, hD⟩, hS.F ht⟩) hS.2.2 dX12_whole1_109
end
section
/-- the numbers of the ways are in their bounds -/
def WnO (f : Nat → Int32) : Prop := (∀ q, q < 39 → -99999 ≤ (f (9 * q)).toInt ∧ (f (9 * q)).toInt ≤ 99999) ∧ ∀ q k, q < 39 → k < 8 → -99 ≤ (f (9 * q + 1 + k)).toInt ∧ (f (9 * q + 1 + k)).toInt ≤ 99
theorem WnO.set {f g : Nat → Int32} {q k : Nat} (h : WnO f) (hq : q < 39) (hk : k < 9) (e : ∀ x, x ≠ 9 * q + k → g x = f x) (h1 : (g (9 * q + k)).toInt.natAbs ≤ (if k = 0 then 99999 else 99)) : WnO g := by
  refine ⟨fun q2 hq2 => ?_, fun q2 k2 hq2 hk2 => ?_⟩
  · by_cases e9 : 9 * q2 = 9 * q + k
    · rw [e9]; rw [if_pos (by omega)] at h1; omega
    · rw [e _ e9]; exact h.1 q2 hq2
  · by_cases e9 : 9 * q2 + 1 + k2 = 9 * q + k
    · rw [e9]; rw [if_neg (by omega)] at h1; omega
    · rw [e _ e9]; exact h.2 q2 k2 hq2 hk2
def p42 : Nat → Nat
  | 0 => 1
  | n + 1 => p42 n * 4398046511104
theorem p42_le : ∀ n, n < 10 → p42 n < 2 ^ 379 := by decide +kernel
theorem p42_step {n x y : Nat} (hx : x ≤ p42 n) (hy : y ≤ 8000000000000 / 2) : x * y ≤ p42 (n + 1) := Nat.mul_le_mul hx (by omega)
end
section
theorem hd_yX12_whole1_RX12 : yX12_whole1.cls = RX12 ∧ yX12_whole1.cls ≠ "java/lang/invoke/MethodHandle" ∧ yX12_whole1.cls ≠ "java/lang/invoke/VarHandle" ∧ (parseMethodDescriptor yX12_whole1.desc).map (fun d => d.parameters.length) = some 1 := by decide +kernel
theorem dX12_keep_0 : decode cX12_keep 0 = .ok (.aload_n 0, 1) := dk_42 (by decide +kernel)
theorem dX12_keep_1 : decode cX12_keep 1 = .ok (.bipush 19, 2) := dk_16 (by decide +kernel)
theorem dX12_keep_3 : decode cX12_keep 3 = .ok (.lconst 1, 1) := dk_10 (by decide +kernel)
theorem dX12_keep_4 : decode cX12_keep 4 = .ok (.invokevirtual 369, 3) := dk_182 (by decide +kernel)
theorem dX12_keep_7 : decode cX12_keep 7 = .ok (.iconst 0, 1) := dk_3 (by decide +kernel)
theorem dX12_keep_8 : decode cX12_keep 8 = .ok (.istore 5, 2) := dk_54 (by decide +kernel)
theorem dX12_keep_10 : decode cX12_keep 10 = .ok (.iload 5, 2) := dk_21 (by decide +kernel)
theorem dX12_keep_12 : decode cX12_keep 12 = .ok (.bipush 9, 2) := dk_16 (by decide +kernel)
theorem dX12_keep_14 : decode cX12_keep 14 = .ok (.if_icmp .ge 145, 3) := dk_162 (by decide +kernel)
theorem dX12_keep_17 : decode cX12_keep 17 = .ok (.aload_n 0, 1) := dk_42 (by decide +kernel)
theorem dX12_keep_18 : decode cX12_keep 18 = .ok (.getfield 170, 3) := dk_180 (by decide +kernel)
theorem dX12_keep_21 : decode cX12_keep 21 = .ok (.iload 5, 2) := dk_21 (by decide +kernel)
theorem dX12_keep_23 : decode cX12_keep 23 = .ok (.iaload, 1) := dk_46 (by decide +kernel)
theorem dX12_keep_24 : decode cX12_keep 24 = .ok (.i2l, 1) := dk_133 (by decide +kernel)
theorem dX12_keep_25 : decode cX12_keep 25 = .ok (.aload_n 0, 1) := dk_42 (by decide +kernel)
theorem dX12_keep_26 : decode cX12_keep 26 = .ok (.getfield 173, 3) := dk_180 (by decide +kernel)
theorem dX12_keep_29 : decode cX12_keep 29 = .ok (.bipush 9, 2) := dk_16 (by decide +kernel)
theorem dX12_keep_31 : decode cX12_keep 31 = .ok (.iload 5, 2) := dk_21 (by decide +kernel)
theorem dX12_keep_33 : decode cX12_keep 33 = .ok (.iadd, 1) := dk_96 (by decide +kernel)
theorem dX12_keep_34 : decode cX12_keep 34 = .ok (.iaload, 1) := dk_46 (by decide +kernel)
theorem dX12_keep_35 : decode cX12_keep 35 = .ok (.i2l, 1) := dk_133 (by decide +kernel)
theorem dX12_keep_36 : decode cX12_keep 36 = .ok (.lmul, 1) := dk_105 (by decide +kernel)
theorem dX12_keep_37 : decode cX12_keep 37 = .ok (.aload_n 0, 1) := dk_42 (by decide +kernel)
theorem dX12_keep_38 : decode cX12_keep 38 = .ok (.getfield 170, 3) := dk_180 (by decide +kernel)
theorem dX12_keep_41 : decode cX12_keep 41 = .ok (.bipush 9, 2) := dk_16 (by decide +kernel)
theorem dX12_keep_43 : decode cX12_keep 43 = .ok (.iload 5, 2) := dk_21 (by decide +kernel)
theorem dX12_keep_45 : decode cX12_keep 45 = .ok (.iadd, 1) := dk_96 (by decide +kernel)
theorem dX12_keep_46 : decode cX12_keep 46 = .ok (.iaload, 1) := dk_46 (by decide +kernel)
theorem dX12_keep_47 : decode cX12_keep 47 = .ok (.i2l, 1) := dk_133 (by decide +kernel)
theorem dX12_keep_48 : decode cX12_keep 48 = .ok (.aload_n 0, 1) := dk_42 (by decide +kernel)
theorem dX12_keep_49 : decode cX12_keep 49 = .ok (.getfield 173, 3) := dk_180 (by decide +kernel)
theorem dX12_keep_52 : decode cX12_keep 52 = .ok (.iload 5, 2) := dk_21 (by decide +kernel)
theorem dX12_keep_54 : decode cX12_keep 54 = .ok (.iaload, 1) := dk_46 (by decide +kernel)
theorem dX12_keep_55 : decode cX12_keep 55 = .ok (.i2l, 1) := dk_133 (by decide +kernel)
theorem dX12_keep_56 : decode cX12_keep 56 = .ok (.lmul, 1) := dk_105 (by decide +kernel)
theorem dX12_keep_57 : decode cX12_keep 57 = .ok (.lsub, 1) := dk_101 (by decide +kernel)
theorem dX12_keep_58 : decode cX12_keep 58 = .ok (.lstore 6, 2) := dk_55 (by decide +kernel)
theorem dX12_keep_60 : decode cX12_keep 60 = .ok (.aload_n 0, 1) := dk_42 (by decide +kernel)
theorem dX12_keep_61 : decode cX12_keep 61 = .ok (.getfield 173, 3) := dk_180 (by decide +kernel)
theorem dX12_keep_64 : decode cX12_keep 64 = .ok (.iload 5, 2) := dk_21 (by decide +kernel)
theorem dX12_keep_66 : decode cX12_keep 66 = .ok (.iaload, 1) := dk_46 (by decide +kernel)
theorem dX12_keep_67 : decode cX12_keep 67 = .ok (.i2l, 1) := dk_133 (by decide +kernel)
theorem dX12_keep_68 : decode cX12_keep 68 = .ok (.aload_n 0, 1) := dk_42 (by decide +kernel)
theorem dX12_keep_69 : decode cX12_keep 69 = .ok (.getfield 173, 3) := dk_180 (by decide +kernel)
theorem dX12_keep_72 : decode cX12_keep 72 = .ok (.bipush 9, 2) := dk_16 (by decide +kernel)
theorem dX12_keep_74 : decode cX12_keep 74 = .ok (.iload 5, 2) := dk_21 (by decide +kernel)
theorem dX12_keep_76 : decode cX12_keep 76 = .ok (.iadd, 1) := dk_96 (by decide +kernel)
theorem dX12_keep_77 : decode cX12_keep 77 = .ok (.iaload, 1) := dk_46 (by decide +kernel)
theorem dX12_keep_78 : decode cX12_keep 78 = .ok (.i2l, 1) := dk_133 (by decide +kernel)
theorem dX12_keep_79 : decode cX12_keep 79 = .ok (.lmul, 1) := dk_105 (by decide +kernel)
theorem dX12_keep_80 : decode cX12_keep 80 = .ok (.lstore 8, 2) := dk_55 (by decide +kernel)
theorem dX12_keep_82 : decode cX12_keep 82 = .ok (.lload 6, 2) := dk_22 (by decide +kernel)
theorem dX12_keep_84 : decode cX12_keep 84 = .ok (.lload 8, 2) := dk_22 (by decide +kernel)
theorem dX12_keep_86 : decode cX12_keep 86 = .ok (.invokestatic 626, 3) := dk_184 (by decide +kernel)
theorem dX12_keep_89 : decode cX12_keep 89 = .ok (.lstore 10, 2) := dk_55 (by decide +kernel)
theorem dX12_keep_91 : decode cX12_keep 91 = .ok (.aload_n 0, 1) := dk_42 (by decide +kernel)
theorem dX12_keep_92 : decode cX12_keep 92 = .ok (.bipush 10, 2) := dk_16 (by decide +kernel)
theorem dX12_keep_94 : decode cX12_keep 94 = .ok (.lload 6, 2) := dk_22 (by decide +kernel)
theorem dX12_keep_96 : decode cX12_keep 96 = .ok (.lload 10, 2) := dk_22 (by decide +kernel)
theorem dX12_keep_98 : decode cX12_keep 98 = .ok (.ldiv, 1) := dk_109 (by decide +kernel)
theorem dX12_keep_99 : decode cX12_keep 99 = .ok (.invokevirtual 369, 3) := dk_182 (by decide +kernel)
theorem dX12_keep_102 : decode cX12_keep 102 = .ok (.aload_n 0, 1) := dk_42 (by decide +kernel)
theorem dX12_keep_103 : decode cX12_keep 103 = .ok (.bipush 11, 2) := dk_16 (by decide +kernel)
theorem dX12_keep_105 : decode cX12_keep 105 = .ok (.lload 8, 2) := dk_22 (by decide +kernel)
theorem dX12_keep_107 : decode cX12_keep 107 = .ok (.lload 10, 2) := dk_22 (by decide +kernel)
theorem dX12_keep_109 : decode cX12_keep 109 = .ok (.ldiv, 1) := dk_109 (by decide +kernel)
theorem dX12_keep_110 : decode cX12_keep 110 = .ok (.invokevirtual 369, 3) := dk_182 (by decide +kernel)
theorem dX12_keep_113 : decode cX12_keep 113 = .ok (.aload_n 0, 1) := dk_42 (by decide +kernel)
theorem dX12_keep_114 : decode cX12_keep 114 = .ok (.bipush 12, 2) := dk_16 (by decide +kernel)
theorem dX12_keep_116 : decode cX12_keep 116 = .ok (.bipush 19, 2) := dk_16 (by decide +kernel)
theorem dX12_keep_118 : decode cX12_keep 118 = .ok (.bipush 11, 2) := dk_16 (by decide +kernel)
theorem dX12_keep_120 : decode cX12_keep 120 = .ok (.invokevirtual 387, 3) := dk_182 (by decide +kernel)
theorem dX12_keep_123 : decode cX12_keep 123 = .ok (.aload_n 0, 1) := dk_42 (by decide +kernel)
theorem dX12_keep_124 : decode cX12_keep 124 = .ok (.bipush 13, 2) := dk_16 (by decide +kernel)
theorem dX12_keep_126 : decode cX12_keep 126 = .ok (.bipush 14, 2) := dk_16 (by decide +kernel)
theorem dX12_keep_128 : decode cX12_keep 128 = .ok (.bipush 11, 2) := dk_16 (by decide +kernel)
theorem dX12_keep_130 : decode cX12_keep 130 = .ok (.bipush 12, 2) := dk_16 (by decide +kernel)
theorem dX12_keep_132 : decode cX12_keep 132 = .ok (.invokevirtual 383, 3) := dk_182 (by decide +kernel)
theorem dX12_keep_135 : decode cX12_keep 135 = .ok (.aload_n 0, 1) := dk_42 (by decide +kernel)
theorem dX12_keep_136 : decode cX12_keep 136 = .ok (.bipush 15, 2) := dk_16 (by decide +kernel)
theorem dX12_keep_138 : decode cX12_keep 138 = .ok (.bipush 19, 2) := dk_16 (by decide +kernel)
theorem dX12_keep_140 : decode cX12_keep 140 = .ok (.bipush 13, 2) := dk_16 (by decide +kernel)
theorem dX12_keep_142 : decode cX12_keep 142 = .ok (.invokevirtual 390, 3) := dk_182 (by decide +kernel)
theorem dX12_keep_145 : decode cX12_keep 145 = .ok (.aload_n 0, 1) := dk_42 (by decide +kernel)
theorem dX12_keep_146 : decode cX12_keep 146 = .ok (.bipush 19, 2) := dk_16 (by decide +kernel)
theorem dX12_keep_148 : decode cX12_keep 148 = .ok (.bipush 15, 2) := dk_16 (by decide +kernel)
theorem dX12_keep_150 : decode cX12_keep 150 = .ok (.invokevirtual 365, 3) := dk_182 (by decide +kernel)
theorem dX12_keep_153 : decode cX12_keep 153 = .ok (.iinc 5 1, 3) := dk_132 (by decide +kernel)
theorem dX12_keep_156 : decode cX12_keep 156 = .ok (.goto (-146), 3) := dk_167 (by decide +kernel)
theorem dX12_keep_159 : decode cX12_keep 159 = .ok (.bipush 9, 2) := dk_16 (by decide +kernel)
theorem dX12_keep_161 : decode cX12_keep 161 = .ok (.iconst 3, 1) := dk_6 (by decide +kernel)
theorem dX12_keep_162 : decode cX12_keep 162 = .ok (.iload_n 1, 1) := dk_27 (by decide +kernel)
theorem dX12_keep_163 : decode cX12_keep 163 = .ok (.imul, 1) := dk_104 (by decide +kernel)
theorem dX12_keep_164 : decode cX12_keep 164 = .ok (.iload_n 2, 1) := dk_28 (by decide +kernel)
theorem dX12_keep_165 : decode cX12_keep 165 = .ok (.iadd, 1) := dk_96 (by decide +kernel)
theorem dX12_keep_166 : decode cX12_keep 166 = .ok (.imul, 1) := dk_104 (by decide +kernel)
theorem dX12_keep_167 : decode cX12_keep 167 = .ok (.istore 5, 2) := dk_54 (by decide +kernel)
theorem dX12_keep_169 : decode cX12_keep 169 = .ok (.aload_n 0, 1) := dk_42 (by decide +kernel)
theorem dX12_keep_170 : decode cX12_keep 170 = .ok (.bipush 16, 2) := dk_16 (by decide +kernel)
theorem dX12_keep_172 : decode cX12_keep 172 = .ok (.lconst 0, 1) := dk_9 (by decide +kernel)
theorem dX12_keep_173 : decode cX12_keep 173 = .ok (.invokevirtual 369, 3) := dk_182 (by decide +kernel)
theorem dX12_keep_176 : decode cX12_keep 176 = .ok (.iconst 0, 1) := dk_3 (by decide +kernel)
theorem dX12_keep_177 : decode cX12_keep 177 = .ok (.istore 6, 2) := dk_54 (by decide +kernel)
theorem dX12_keep_179 : decode cX12_keep 179 = .ok (.iload 6, 2) := dk_21 (by decide +kernel)
theorem dX12_keep_181 : decode cX12_keep 181 = .ok (.bipush 9, 2) := dk_16 (by decide +kernel)
theorem dX12_keep_183 : decode cX12_keep 183 = .ok (.if_icmp .ge 33, 3) := dk_162 (by decide +kernel)
theorem dX12_keep_186 : decode cX12_keep 186 = .ok (.aload_n 0, 1) := dk_42 (by decide +kernel)
theorem dX12_keep_187 : decode cX12_keep 187 = .ok (.iload 6, 2) := dk_21 (by decide +kernel)
theorem dX12_keep_189 : decode cX12_keep 189 = .ok (.invokevirtual 792, 3) := dk_182 (by decide +kernel)
theorem dX12_keep_192 : decode cX12_keep 192 = .ok (.aload_n 0, 1) := dk_42 (by decide +kernel)
theorem dX12_keep_193 : decode cX12_keep 193 = .ok (.bipush 12, 2) := dk_16 (by decide +kernel)
theorem dX12_keep_195 : decode cX12_keep 195 = .ok (.bipush 16, 2) := dk_16 (by decide +kernel)
theorem dX12_keep_197 : decode cX12_keep 197 = .ok (.bipush 17, 2) := dk_16 (by decide +kernel)
theorem dX12_keep_199 : decode cX12_keep 199 = .ok (.invokevirtual 387, 3) := dk_182 (by decide +kernel)
theorem dX12_keep_202 : decode cX12_keep 202 = .ok (.aload_n 0, 1) := dk_42 (by decide +kernel)
theorem dX12_keep_203 : decode cX12_keep 203 = .ok (.bipush 16, 2) := dk_16 (by decide +kernel)
theorem dX12_keep_205 : decode cX12_keep 205 = .ok (.bipush 12, 2) := dk_16 (by decide +kernel)
theorem dX12_keep_207 : decode cX12_keep 207 = .ok (.invokevirtual 365, 3) := dk_182 (by decide +kernel)
theorem dX12_keep_210 : decode cX12_keep 210 = .ok (.iinc 6 1, 3) := dk_132 (by decide +kernel)
theorem dX12_keep_213 : decode cX12_keep 213 = .ok (.goto (-34), 3) := dk_167 (by decide +kernel)
theorem dX12_keep_216 : decode cX12_keep 216 = .ok (.iconst 0, 1) := dk_3 (by decide +kernel)
theorem dX12_keep_217 : decode cX12_keep 217 = .ok (.istore 6, 2) := dk_54 (by decide +kernel)
theorem dX12_keep_219 : decode cX12_keep 219 = .ok (.iload 6, 2) := dk_21 (by decide +kernel)
theorem dX12_keep_221 : decode cX12_keep 221 = .ok (.bipush 9, 2) := dk_16 (by decide +kernel)
theorem dX12_keep_223 : decode cX12_keep 223 = .ok (.if_icmp .ge 122, 3) := dk_162 (by decide +kernel)
theorem dX12_keep_226 : decode cX12_keep 226 = .ok (.aload_n 0, 1) := dk_42 (by decide +kernel)
theorem dX12_keep_227 : decode cX12_keep 227 = .ok (.iload 6, 2) := dk_21 (by decide +kernel)
theorem dX12_keep_229 : decode cX12_keep 229 = .ok (.invokevirtual 792, 3) := dk_182 (by decide +kernel)
theorem dX12_keep_232 : decode cX12_keep 232 = .ok (.aload_n 0, 1) := dk_42 (by decide +kernel)
theorem dX12_keep_233 : decode cX12_keep 233 = .ok (.bipush 16, 2) := dk_16 (by decide +kernel)
theorem dX12_keep_235 : decode cX12_keep 235 = .ok (.invokevirtual 353, 3) := dk_182 (by decide +kernel)
theorem dX12_keep_238 : decode cX12_keep 238 = .ok (.ifCond .le 23, 3) := dk_158 (by decide +kernel)
theorem dX12_keep_241 : decode cX12_keep 241 = .ok (.aload_n 0, 1) := dk_42 (by decide +kernel)
theorem dX12_keep_242 : decode cX12_keep 242 = .ok (.bipush 13, 2) := dk_16 (by decide +kernel)
theorem dX12_keep_244 : decode cX12_keep 244 = .ok (.bipush 14, 2) := dk_16 (by decide +kernel)
theorem dX12_keep_246 : decode cX12_keep 246 = .ok (.bipush 17, 2) := dk_16 (by decide +kernel)
theorem dX12_keep_248 : decode cX12_keep 248 = .ok (.bipush 16, 2) := dk_16 (by decide +kernel)
theorem dX12_keep_250 : decode cX12_keep 250 = .ok (.invokevirtual 383, 3) := dk_182 (by decide +kernel)
theorem dX12_keep_253 : decode cX12_keep 253 = .ok (.aload_n 0, 1) := dk_42 (by decide +kernel)
theorem dX12_keep_254 : decode cX12_keep 254 = .ok (.bipush 17, 2) := dk_16 (by decide +kernel)
theorem dX12_keep_256 : decode cX12_keep 256 = .ok (.bipush 13, 2) := dk_16 (by decide +kernel)
theorem dX12_keep_258 : decode cX12_keep 258 = .ok (.invokevirtual 365, 3) := dk_182 (by decide +kernel)
theorem dX12_keep_261 : decode cX12_keep 261 = .ok (.aload_n 0, 1) := dk_42 (by decide +kernel)
theorem dX12_keep_262 : decode cX12_keep 262 = .ok (.bipush 18, 2) := dk_16 (by decide +kernel)
theorem dX12_keep_264 : decode cX12_keep 264 = .ok (.iload 6, 2) := dk_21 (by decide +kernel)
theorem dX12_keep_266 : decode cX12_keep 266 = .ok (.ifCond .ne 9, 3) := dk_154 (by decide +kernel)
theorem dX12_keep_269 : decode cX12_keep 269 = .ok (.ldc2_w 795, 3) := dk_20 (by decide +kernel)
theorem dX12_keep_272 : decode cX12_keep 272 = .ok (.goto 6, 3) := dk_167 (by decide +kernel)
theorem dX12_keep_275 : decode cX12_keep 275 = .ok (.ldc2_w 797, 3) := dk_20 (by decide +kernel)
theorem dX12_keep_278 : decode cX12_keep 278 = .ok (.invokevirtual 369, 3) := dk_182 (by decide +kernel)
theorem dX12_keep_281 : decode cX12_keep 281 = .ok (.aload_n 0, 1) := dk_42 (by decide +kernel)
theorem dX12_keep_282 : decode cX12_keep 282 = .ok (.bipush 17, 2) := dk_16 (by decide +kernel)
theorem dX12_keep_284 : decode cX12_keep 284 = .ok (.bipush 18, 2) := dk_16 (by decide +kernel)
theorem dX12_keep_286 : decode cX12_keep 286 = .ok (.invokevirtual 357, 3) := dk_182 (by decide +kernel)
theorem dX12_keep_289 : decode cX12_keep 289 = .ok (.ifCond .le 11, 3) := dk_158 (by decide +kernel)
theorem dX12_keep_292 : decode cX12_keep 292 = .ok (.aload_n 0, 1) := dk_42 (by decide +kernel)
theorem dX12_keep_293 : decode cX12_keep 293 = .ok (.bipush 9, 2) := dk_16 (by decide +kernel)
theorem dX12_keep_295 : decode cX12_keep 295 = .ok (.iload 4, 2) := dk_21 (by decide +kernel)
theorem dX12_keep_297 : decode cX12_keep 297 = .ok (.invokevirtual 518, 3) := dk_182 (by decide +kernel)
theorem dX12_keep_300 : decode cX12_keep 300 = .ok (.aload_n 0, 1) := dk_42 (by decide +kernel)
theorem dX12_keep_301 : decode cX12_keep 301 = .ok (.getfield 515, 3) := dk_180 (by decide +kernel)
theorem dX12_keep_304 : decode cX12_keep 304 = .ok (.ifCond .le 4, 3) := dk_158 (by decide +kernel)
theorem dX12_keep_307 : decode cX12_keep 307 = .ok (.return_, 1) := dk_177 (by decide +kernel)
theorem dX12_keep_308 : decode cX12_keep 308 = .ok (.aload_n 0, 1) := dk_42 (by decide +kernel)
theorem dX12_keep_309 : decode cX12_keep 309 = .ok (.bipush 17, 2) := dk_16 (by decide +kernel)
theorem dX12_keep_311 : decode cX12_keep 311 = .ok (.invokevirtual 799, 3) := dk_182 (by decide +kernel)
theorem dX12_keep_314 : decode cX12_keep 314 = .ok (.istore 7, 2) := dk_54 (by decide +kernel)
theorem dX12_keep_316 : decode cX12_keep 316 = .ok (.aload_n 0, 1) := dk_42 (by decide +kernel)
theorem dX12_keep_317 : decode cX12_keep 317 = .ok (.getfield 203, 3) := dk_180 (by decide +kernel)
theorem dX12_keep_320 : decode cX12_keep 320 = .ok (.iload 5, 2) := dk_21 (by decide +kernel)
theorem dX12_keep_322 : decode cX12_keep 322 = .ok (.iload 6, 2) := dk_21 (by decide +kernel)
theorem dX12_keep_324 : decode cX12_keep 324 = .ok (.iadd, 1) := dk_96 (by decide +kernel)
theorem dX12_keep_325 : decode cX12_keep 325 = .ok (.iload 6, 2) := dk_21 (by decide +kernel)
theorem dX12_keep_327 : decode cX12_keep 327 = .ok (.ifCond .ne 9, 3) := dk_154 (by decide +kernel)
theorem dX12_keep_330 : decode cX12_keep 330 = .ok (.iload 7, 2) := dk_21 (by decide +kernel)
theorem dX12_keep_332 : decode cX12_keep 332 = .ok (.ineg, 1) := dk_116 (by decide +kernel)
theorem dX12_keep_333 : decode cX12_keep 333 = .ok (.goto 5, 3) := dk_167 (by decide +kernel)
theorem dX12_keep_336 : decode cX12_keep 336 = .ok (.iload 7, 2) := dk_21 (by decide +kernel)
theorem dX12_keep_338 : decode cX12_keep 338 = .ok (.iastore, 1) := dk_79 (by decide +kernel)
theorem dX12_keep_339 : decode cX12_keep 339 = .ok (.iinc 6 1, 3) := dk_132 (by decide +kernel)
theorem dX12_keep_342 : decode cX12_keep 342 = .ok (.goto (-123), 3) := dk_167 (by decide +kernel)
theorem dX12_keep_345 : decode cX12_keep 345 = .ok (.aload_n 0, 1) := dk_42 (by decide +kernel)
theorem dX12_keep_346 : decode cX12_keep 346 = .ok (.getfield 206, 3) := dk_180 (by decide +kernel)
theorem dX12_keep_349 : decode cX12_keep 349 = .ok (.iconst 3, 1) := dk_6 (by decide +kernel)
theorem dX12_keep_350 : decode cX12_keep 350 = .ok (.iload_n 1, 1) := dk_27 (by decide +kernel)
theorem dX12_keep_351 : decode cX12_keep 351 = .ok (.imul, 1) := dk_104 (by decide +kernel)
theorem dX12_keep_352 : decode cX12_keep 352 = .ok (.iload_n 2, 1) := dk_28 (by decide +kernel)
theorem dX12_keep_353 : decode cX12_keep 353 = .ok (.iadd, 1) := dk_96 (by decide +kernel)
theorem dX12_keep_354 : decode cX12_keep 354 = .ok (.iload_n 3, 1) := dk_29 (by decide +kernel)
theorem dX12_keep_355 : decode cX12_keep 355 = .ok (.iastore, 1) := dk_79 (by decide +kernel)
theorem dX12_keep_356 : decode cX12_keep 356 = .ok (.return_, 1) := dk_177 (by decide +kernel)
def wsRX12_keep : List Cond := .code yX12_keep cX12_keep 12 none :: ([.fieldLink RX12 206 "OptimaWorksModel" "waySign" "[I", .constantLong RX12 797 99, .constantLong RX12 795 99999, .fieldLink RX12 515 "OptimaWorksModel" "stop" "I", .fieldLink RX12 203 "OptimaWorksModel" "wayNumber" "[I", .fieldLink RX12 170 "OptimaWorksModel" "top" "[I", .fieldLink RX12 173 "OptimaWorksModel" "under" "[I"] ++ wsX120 ++ (wsV RX12 369 RX12 yX12_put wsRX12_put) ++ (wsV RX12 792 RX12 yX12_whole1 wsRX12_whole1) ++ (wsV RX12 353 RX12 yX12_sign wsRX12_sign) ++ (wsV RX12 383 RX12 yX12_divide wsRX12_divide) ++ (wsV RX12 365 RX12 yX12_copy wsRX12_copy) ++ (wsV RX12 357 RX12 yX12_bare wsRX12_bare) ++ (wsV RX12 799 RX12 yX12_small wsRX12_small) ++ (wsV RX12 518 RX12 yX12_faultAt wsRX12_faultAt) ++ (wsV RX12 387 RX12 yX12_common wsRX12_common) ++ (va_wsS RX12 626 yX12_common1 wsRX12_common1) ++ (wsV RX12 390 RX12 yX12_times wsRX12_times))
theorem iwsRX12_keep_in12 : ∀ w ∈ wsX120, w ∈ wsRX12_keep := fun _ h => List.mem_cons_of_mem _ (List.mem_append_left _ (List.mem_append_left _ (List.mem_append_left _ (List.mem_append_left _ (List.mem_append_left _ (List.mem_append_left _ (List.mem_append_left _ (List.mem_append_left _ (List.mem_append_left _ (List.mem_append_left _ (List.mem_append_left _ (List.mem_append_right _ h))))))))))))
theorem gwsRX12_keep_0 : GoodIn wsRX12_keep (wsV RX12 369 RX12 yX12_put wsRX12_put) := goodIn_sub (fun _ h => List.mem_cons_of_mem _ (List.mem_append_left _ (List.mem_append_left _ (List.mem_append_left _ (List.mem_append_left _ (List.mem_append_left _ (List.mem_append_left _ (List.mem_append_left _ (List.mem_append_left _ (List.mem_append_left _ (List.mem_append_left _ (List.mem_append_right _ h)))))))))))) (gdV (by decide +kernel) gdwsRX12_put)
theorem gwsRX12_keep_1 : GoodIn wsRX12_keep (wsV RX12 792 RX12 yX12_whole1 wsRX12_whole1) := goodIn_sub (fun _ h => List.mem_cons_of_mem _ (List.mem_append_left _ (List.mem_append_left _ (List.mem_append_left _ (List.mem_append_left _ (List.mem_append_left _ (List.mem_append_left _ (List.mem_append_left _ (List.mem_append_left _ (List.mem_append_left _ (List.mem_append_right _ h))))))))))) (gdV (by decide +kernel) gdwsRX12_whole1)
theorem gwsRX12_keep_2 : GoodIn wsRX12_keep (wsV RX12 353 RX12 yX12_sign wsRX12_sign) := goodIn_sub (fun _ h => List.mem_cons_of_mem _ (List.mem_append_left _ (List.mem_append_left _ (List.mem_append_left _ (List.mem_append_left _ (List.mem_append_left _ (List.mem_append_left _ (List.mem_append_left _ (List.mem_append_left _ (List.mem_append_right _ h)))))))))) (gdV (by decide +kernel) gdwsRX12_sign)
theorem gwsRX12_keep_3 : GoodIn wsRX12_keep (wsV RX12 383 RX12 yX12_divide wsRX12_divide) := goodIn_sub (fun _ h => List.mem_cons_of_mem _ (List.mem_append_left _ (List.mem_append_left _ (List.mem_append_left _ (List.mem_append_left _ (List.mem_append_left _ (List.mem_append_left _ (List.mem_append_left _ (List.mem_append_right _ h))))))))) (gdV (by decide +kernel) gdwsRX12_divide)
theorem gwsRX12_keep_4 : GoodIn wsRX12_keep (wsV RX12 365 RX12 yX12_copy wsRX12_copy) := goodIn_sub (fun _ h => List.mem_cons_of_mem _ (List.mem_append_left _ (List.mem_append_left _ (List.mem_append_left _ (List.mem_append_left _ (List.mem_append_left _ (List.mem_append_left _ (List.mem_append_right _ h)))))))) (gdV (by decide +kernel) gdwsRX12_copy)
theorem gwsRX12_keep_5 : GoodIn wsRX12_keep (wsV RX12 357 RX12 yX12_bare wsRX12_bare) := goodIn_sub (fun _ h => List.mem_cons_of_mem _ (List.mem_append_left _ (List.mem_append_left _ (List.mem_append_left _ (List.mem_append_left _ (List.mem_append_left _ (List.mem_append_right _ h))))))) (gdV (by decide +kernel) gdwsRX12_bare)
theorem gwsRX12_keep_6 : GoodIn wsRX12_keep (wsV RX12 799 RX12 yX12_small wsRX12_small) := goodIn_sub (fun _ h => List.mem_cons_of_mem _ (List.mem_append_left _ (List.mem_append_left _ (List.mem_append_left _ (List.mem_append_left _ (List.mem_append_right _ h)))))) (gdV (by decide +kernel) gdwsRX12_small)
theorem gwsRX12_keep_7 : GoodIn wsRX12_keep (wsV RX12 518 RX12 yX12_faultAt wsRX12_faultAt) := goodIn_sub (fun _ h => List.mem_cons_of_mem _ (List.mem_append_left _ (List.mem_append_left _ (List.mem_append_left _ (List.mem_append_right _ h))))) (gdV (by decide +kernel) gdwsRX12_faultAt)
theorem gwsRX12_keep_8 : GoodIn wsRX12_keep (wsV RX12 387 RX12 yX12_common wsRX12_common) := goodIn_sub (fun _ h => List.mem_cons_of_mem _ (List.mem_append_left _ (List.mem_append_left _ (List.mem_append_right _ h)))) (gdV (by decide +kernel) gdwsRX12_common)
theorem gwsRX12_keep_9 : GoodIn wsRX12_keep (va_wsS RX12 626 yX12_common1 wsRX12_common1) := goodIn_sub (fun _ h => List.mem_cons_of_mem _ (List.mem_append_left _ (List.mem_append_right _ h))) (gdS (by decide +kernel) gdwsRX12_common1)
theorem gwsRX12_keep_10 : GoodIn wsRX12_keep (wsV RX12 390 RX12 yX12_times wsRX12_times) := goodIn_sub (fun _ h => List.mem_cons_of_mem _ (List.mem_append_right _ h)) (gdV (by decide +kernel) gdwsRX12_times)
theorem gdwsRX12_keep : wsRX12_keep.all goodWord = true := gdC rfl (gdA (gdA (gdA (gdA (gdA (gdA (gdA (gdA (gdA (gdA (gdA (gdA (by decide +kernel : ([.fieldLink RX12 206 "OptimaWorksModel" "waySign" "[I", .constantLong RX12 797 99, .constantLong RX12 795 99999, .fieldLink RX12 515 "OptimaWorksModel" "stop" "I", .fieldLink RX12 203 "OptimaWorksModel" "wayNumber" "[I", .fieldLink RX12 170 "OptimaWorksModel" "top" "[I", .fieldLink RX12 173 "OptimaWorksModel" "under" "[I"] : List Cond).all goodWord = true) gdwsX120) (gdV (by decide +kernel) gdwsRX12_put)) (gdV (by decide +kernel) gdwsRX12_whole1)) (gdV (by decide +kernel) gdwsRX12_sign)) (gdV (by decide +kernel) gdwsRX12_divide)) (gdV (by decide +kernel) gdwsRX12_copy)) (gdV (by decide +kernel) gdwsRX12_bare)) (gdV (by decide +kernel) gdwsRX12_small)) (gdV (by decide +kernel) gdwsRX12_faultAt)) (gdV (by decide +kernel) gdwsRX12_common)) (gdS (by decide +kernel) gdwsRX12_common1)) (gdV (by decide +kernel) gdwsRX12_times))
theorem hm_r_X12_keep_0 : (.fieldLink RX12 515 "OptimaWorksModel" "stop" "I" : Cond) ∈ wsRX12_keep := by decide +kernel
theorem hm_r_X12_keep_1 : (.fieldLink RX12 170 "OptimaWorksModel" "top" "[I" : Cond) ∈ wsRX12_keep := by decide +kernel
theorem hm_r_X12_keep_2 : (.fieldLink RX12 173 "OptimaWorksModel" "under" "[I" : Cond) ∈ wsRX12_keep := by decide +kernel
set_option maxHeartbeats 4000000 in
set_option maxRecDepth 100000 in
/-- keep(r, w, sign, p) -/
theorem r_X12_keep (l : Launch) (dC : Nat → ClassId) (dI : Nat → Nat → Nat) (a : Nat → Nat) (k : Nat → ClassId) (h0 : Nat) (vi : Nat → Int32) (vj : Nat → Int64) (vF : Nat → Nat → Int32) (vG : Nat → Nat → Int64) (rN : Nat) (wN : Nat) (sI : Int32) (pI : Int32) (mg : Nat → Int) (hBg : Bg (vF 0) mg) (hrN : rN < 12) (hwN : wN < 3) (hR0 : RowU (vF 49) (vF 50) 0) (hR1 : RowU (vF 49) (vF 50) 1) (hWn : WnO (vF 60)) (hst0 : 0 ≤ (vi 21).toInt) (sz : Nat) : Met l yX12_keep wsRX12_keep ({ frames := 3, cells := 0, slots := 0, locals := 89 }) (va_Pc [.ref h0, .int (nI rN), .int (nI wN), .int sI, .int pI] (fun U => U.heap.size = sz ∧ va_P (dC, dI) vwCl (WR a k h0 vi vj vF vG) U.heap ∧ va_K (dC, dI) vwCl (tX12 k) U ∧ va_D (fun _ => True) (WR a k h0 vi vj vF vG))) (va_Qv (fun (u : (Nat → Int32) × (Nat → Int32) × (Nat → Int32) × (Nat → Int64) × (Nat → Int32) × (Nat → Int32) × (Int32) × (Int32) × (Nat → Int)) => (Bg (u.1) (u.2.2.2.2.2.2.2.2)) ∧ (WnO (u.2.2.2.2.1)) ∧ (0 ≤ ((u.2.2.2.2.2.2.1)).toInt) ∧ ((u.2.2.2.2.2.2.1) = vi 21 ∨ 0 < ((u.2.2.2.2.2.2.1)).toInt) ∧ (∀ q, (q < 10 ∨ 19 < q) → (q < 5 ∨ 8 < q) → (u.2.2.2.2.2.2.2.2) q = mg q)) (fun (u : (Nat → Int32) × (Nat → Int32) × (Nat → Int32) × (Nat → Int64) × (Nat → Int32) × (Nat → Int32) × (Int32) × (Int32) × (Nat → Int)) t => va_P (dC, dI) vwCl (WR a k h0 (fT (fT vi 21 (u.2.2.2.2.2.2.1)) 22 (u.2.2.2.2.2.2.2.1)) vj (fT (fT (fT (fT (fT vF 0 (u.1)) 2 (u.2.1)) 3 (u.2.2.1)) 60 (u.2.2.2.2.1)) 61 (u.2.2.2.2.2.1)) (fT vG 1 (u.2.2.2.1))) t.heap ∧ va_D (va_A (WR a k h0 vi vj vF vG) sz) (WR a k h0 (fT (fT vi 21 (u.2.2.2.2.2.2.1)) 22 (u.2.2.2.2.2.2.2.1)) vj (fT (fT (fT (fT (fT vF 0 (u.1)) 2 (u.2.1)) 3 (u.2.2.1)) 60 (u.2.2.2.2.1)) 61 (u.2.2.2.2.2.1)) (fT vG 1 (u.2.2.2.1)))) (va_A (WR a k h0 vi vj vF vG) sz)) 0 0 (va_A (WR a k h0 vi vj vF vG) sz) := by
  refine Met.ofW (cc := cX12_keep) (maxL := 12) (ret := none) (by decide) rfl ?_
  intro p e s m args below meth c s₁ B hml hv
  obtain ⟨rfl, hsz, hP, hK, hD0⟩ := hv
  have hx := B.exec
  have hb := B.bytes
  have hr := B.returns
  have hts := atoms_spec (ws := wsRX12_keep) B.pre
  have hown : s.vm.findClass RX12 = some m.cls := findClass_of_methodNamed B.named
  have hlocks := B.notSynchronized
  subst hsz
  have hD := hD0.self (sz := s.heap.size)
  generalize hAe : va_A (WR a k h0 vi vj vF vG) s.heap.size = A at hD ⊢
  have hA : ∀ q : Nat, s.heap.size ≤ q → A q := fun q h => by rw [← hAe]; exact Or.inr h
  have hS : va_S A s.heap s.heap [] := va_S.rf
  have hl := lv_entry ([.ref h0, .int (nI rN), .int (nI wN), .int sI, .int pI]) (n := 12) (Nat.le_of_ble_eq_true rfl)
  rw [lg_entry_eq]
  generalize (lg_sl ([.ref h0, .int (nI rN), .int (nI wN), .int sI, .int pI]) ++ List.replicate (12 - (lg_sl ([.ref h0, .int (nI rN), .int (nI wN), .int sI, .int pI])).length) Slot.unset).toArray = ls at hl ⊢
  have hl : lv_has ls 12 [(0, .ref h0), (1, .int (nI rN)), (2, .int (nI wN)), (3, .int sI), (4, .int pI)] := hl
  refine lv_aload_n hx hb dX12_keep_0 rfl (lv_at hl 0 rfl) ?_
  refine lv_bipush (v := 19) hx hb dX12_keep_1 (by decide) ?_
  refine lv_lconst (v := 1) hx hb dX12_keep_3 (by decide) ?_
  have hFc := allFree hD hS hA
  refine va_callv (va_runV (As := [.int 19, .long 1]) (rest := []) ⟨hx, hb, hml, hown, hts⟩ (b_X12_put l dC dI a k h0 vi vj vF vG 19 1 1 mg hBg (by first | with_reducible assumption | decide | omega | rfl | assumption) (by decide) (by first | with_reducible assumption | decide | omega | rfl | assumption) s.heap.size) (cwV 2 hts gwsRX12_keep_0 rfl rfl rfl hd_yX12_put_RX12 (by decide +kernel)) (fz_pre (va_recv hK hP (ci := 12) (q0 := 0) rfl rfl) hP hK hD) rfl rfl hl.1 rfl (lv_room (Nat.le_of_ble_eq_true rfl)) dX12_keep_4 (by decide +kernel)) hS (fun q _ h => hFc q h) hFc (fun g4 t9_ H locs ht hvm hw9 hB9 hz1 hk1 hS => ?_)
  have hP : va_P (dC, dI) vwCl (WR a k h0 vi vj (fT vF 0 g4) vG) H := fz_P ht hB9.1
  have hD := fz_sd hP (hB9.2.weaken (fun _ q _ h => hFc q.1 h)) rfl
  have f4_0 := hw9
  try dsimp only at f4_0
  refine lv_iconst (v := 0) hx hb dX12_keep_7 (by decide) ?_
  refine lv_istore hx hb dX12_keep_8 hl (by decide) rfl (fun ls (hl : lv_has ls _ ([(5, .int 0), (0, .ref h0), (1, .int (nI rN)), (2, .int (nI wN)), (3, .int sI), (4, .int pI)])) => ?_)
  have e9 : fT (fT (fT vF 0 g4) 2 (vF 2)) 3 (vF 3) = fT vF 0 g4 := Eq.trans (mv_1 rfl) (Eq.trans (id_2 rfl) (id_1 rfl))
  have hP := wr_PF e9 hP
  have hD := wr_DF e9 hD
  clear e9
  have e9 : fT vG 1 (vG 1) = vG := by funext q9; by_cases h9_1 : q9 = 1; (subst h9_1; exact (fT_eq _ _ _).trans (Eq.trans (by first | with_reducible rfl | with_reducible assumption | (symm; with_reducible assumption) | rfl | assumption | (symm; assumption) | (subst_vars; rfl)) (Eq.refl _).symm)); exact (fT_ne _ _ h9_1).trans (Eq.refl _).symm
  have hP := wr_PG e9 hP
  have hD := wr_DG e9 hD
  clear e9
  have hl : lv_has _ _ ([(0, .ref h0), (1, .int (nI rN)), (2, .int (nI wN)), (3, .int sI), (4, .int pI), (5, .int (nI 0))]) := lv_sub hl [1, 2, 3, 4, 5, 0] rfl
  refine (fun (loop : ∀ (n9 : Nat) (k5 : Nat) (x16_F0 : Nat → Int32) (x16_F2 : Nat → Int32) (x16_F3 : Nat → Int32) (x16_G1 : Nat → Int64) (mK : Nat → Int) (x19 : Int) (H : Heap) (locs : List Loc) (ls : Array Slot), (Bg x16_F0 mK) → (mK 19 = x19) → (k5 ≤ 9) → (0 < x19) → (x19.natAbs ≤ p42 k5) → (∀ q, (q < 10 ∨ 19 < q) → (q < 5 ∨ 8 < q) → mK q = mg q) →  (9 < k5 + n9) → va_P (dC, dI) vwCl (WR a k h0 vi vj (fT (fT (fT vF 0 x16_F0) 2 x16_F2) 3 x16_F3) (fT vG 1 x16_G1)) H → va_D A (WR a k h0 vi vj (fT (fT (fT vF 0 x16_F0) 2 x16_F2) 3 x16_F3) (fT vG 1 x16_G1)) → va_S A s.heap H locs → lv_has ls 12 [(0, .ref h0), (1, .int (nI rN)), (2, .int (nI wN)), (3, .int sI), (4, .int pI), (5, .int (nI k5))] → W p l e _ s m _ below meth c H locs 0 0 _ (F0 m 10 ls [])) => loop (10) 0 g4 (vF 2) (vF 3) (vG 1) (fT mg 19 1) 1 _ _ _ (f4_0) ((by rw [fT_eq])) (by omega) (by decide) (by decide) (fun q h1 h2 => by (rw [fT_ne _ _ (by omega)])) (by omega) hP hD hS hl) ?_
  intro n9
  induction n9 with
  | zero => intro k5 x16_F0 x16_F2 x16_F3 x16_G1 mK x19 H locs ls hBK v_x19 hk5 hx19p hx19b ho1 hf9; exact False.elim (by omega)
  | succ n9 ih10 =>
    intro k5 x16_F0 x16_F2 x16_F3 x16_G1 mK x19 H locs ls hBK v_x19 hk5 hx19p hx19b ho1 hf10 hP hD hS hl
    refine lv_iload hx hb dX12_keep_10 (lv_at hl 5 rfl) ?_
    refine lv_bipush (v := 9) hx hb dX12_keep_12 (by decide) ?_
    refine lv_icmp_ge (tgt := 159) hx hb dX12_keep_14 (by decide) (fun c_14 => ?_) (fun c_14 => ?_)
    · have t_14 : ((k5 : Nat) : Int) ≥ 9 := toI_ge c_14 (nI_toInt (by omega)) (by decide)
      have h19c : x19.natAbs < 2 ^ 380 := Nat.lt_of_le_of_lt hx19b (Nat.lt_trans (p42_le k5 (by omega)) (by decide +kernel))
      refine lv_bipush (v := 9) hx hb dX12_keep_159 (by decide) ?_
      refine lv_iconst (v := 3) hx hb dX12_keep_161 (by decide) ?_
      refine lv_iload_n hx hb dX12_keep_162 rfl (lv_at hl 1 rfl) ?_
      refine lv_imul hx hb dX12_keep_163 ?_
      refine lv_topi (fun y1 hy1 => ?_)
      obtain rfl : (nI (3 * rN)) = y1 := (hy1.trans (pk_mul 3 rN)).symm
      refine lv_iload_n hx hb dX12_keep_164 rfl (lv_at hl 2 rfl) ?_
      refine lv_iadd hx hb dX12_keep_165 ?_
      refine lv_topi (fun y2 hy2 => ?_)
      obtain rfl : (nI ((3 * rN) + wN)) = y2 := (hy2.trans (nI_add (3 * rN) wN)).symm
      refine lv_imul hx hb dX12_keep_166 ?_
      refine lv_topi (fun y3 hy3 => ?_)
      obtain rfl : (nI (9 * ((3 * rN) + wN))) = y3 := (hy3.trans (pk_mul 9 ((3 * rN) + wN))).symm
      refine lv_istore hx hb dX12_keep_167 hl (by decide) rfl (fun ls (hl : lv_has ls _ ([(5, .int (nI (9 * ((3 * rN) + wN)))), (0, .ref h0), (1, .int (nI rN)), (2, .int (nI wN)), (3, .int sI), (4, .int pI)])) => ?_)
      refine lv_aload_n hx hb dX12_keep_169 rfl (lv_at hl 1 rfl) ?_
      refine lv_bipush (v := 16) hx hb dX12_keep_170 (by decide) ?_
      refine lv_lconst (v := 0) hx hb dX12_keep_172 (by decide) ?_
      have hFc := allFree hD hS hA
      refine va_callv (va_runV (As := [.int 16, .long 0]) (rest := []) ⟨hx, hb, hml, hown, hts⟩ (b_X12_put l dC dI a k h0 vi vj (fT (fT (fT vF 0 x16_F0) 2 x16_F2) 3 x16_F3) (fT vG 1 x16_G1) 16 0 0 mK hBK (by first | with_reducible assumption | decide | omega | rfl | assumption) (by decide) (by first | with_reducible assumption | decide | omega | rfl | assumption) H.size) (cwV 2 hts gwsRX12_keep_0 rfl rfl rfl hd_yX12_put_RX12 (by decide +kernel)) (fz_pre (va_recv hK hP (ci := 12) (q0 := 0) rfl rfl) hP hK hD) rfl rfl hl.1 rfl (lv_room (Nat.le_of_ble_eq_true rfl)) dX12_keep_173 (by decide +kernel)) hS (fun q _ h => hFc q h) hFc (fun g173 t9_ H locs ht hvm hw9 hB9 hz1 hk1 hS => ?_)
      have e9F : fT (fT (fT vF 0 g173) 2 x16_F2) 3 x16_F3 = fT (fT (fT (fT vF 0 x16_F0) 2 x16_F2) 3 x16_F3) 0 g173 := ((fT_sw _ _ _ (Nat.ne_of_beq_eq_false rfl)).trans (congrArg (fun g9 => fT g9 3 x16_F3) ((fT_sw _ _ _ (Nat.ne_of_beq_eq_false rfl)).trans (congrArg (fun g9 => fT g9 2 x16_F2) (fT_sm _ _ _ _))))).symm
      have hP := wr_PF e9F (fz_P ht hB9.1)
      have hD := wr_DF e9F (hB9.2.weaken (fun _ q _ h => hFc q.1 h))
      clear e9F
      have f173_0 := hw9
      try dsimp only at f173_0
      refine lv_iconst (v := 0) hx hb dX12_keep_176 (by decide) ?_
      refine lv_istore hx hb dX12_keep_177 hl (by decide) rfl (fun ls (hl : lv_has ls _ ([(6, .int 0), (5, .int (nI (9 * ((3 * rN) + wN)))), (0, .ref h0), (1, .int (nI rN)), (2, .int (nI wN)), (3, .int sI), (4, .int pI)])) => ?_)
      have hl : lv_has _ _ ([(0, .ref h0), (1, .int (nI rN)), (2, .int (nI wN)), (3, .int sI), (4, .int pI), (5, .int (nI (9 * ((3 * rN) + wN)))), (6, .int (nI 0))]) := lv_sub hl [2, 3, 4, 5, 6, 1, 0] rfl
      refine (fun (loop : ∀ (n9 : Nat) (k6 : Nat) (x24_F0 : Nat → Int32) (x24_F2 : Nat → Int32) (x24_F3 : Nat → Int32) (x24_G1 : Nat → Int64) (m3 : Nat → Int) (H : Heap) (locs : List Loc) (ls : Array Slot), (Bg x24_F0 m3) → (k6 ≤ 9) → (m3 19 = x19) → (∀ q, (q < 10 ∨ 19 < q) → (q < 5 ∨ 8 < q) → m3 q = mg q) →  (9 < k6 + n9) → va_P (dC, dI) vwCl (WR a k h0 vi vj (fT (fT (fT vF 0 x24_F0) 2 x24_F2) 3 x24_F3) (fT vG 1 x24_G1)) H → va_D A (WR a k h0 vi vj (fT (fT (fT vF 0 x24_F0) 2 x24_F2) 3 x24_F3) (fT vG 1 x24_G1)) → va_S A s.heap H locs → lv_has ls 12 [(0, .ref h0), (1, .int (nI rN)), (2, .int (nI wN)), (3, .int sI), (4, .int pI), (5, .int (nI (9 * ((3 * rN) + wN)))), (6, .int (nI k6))] → W p l e _ s m _ below meth c H locs 0 0 _ (F0 m 179 ls [])) => loop (10) 0 g173 x16_F2 x16_F3 x16_G1 (fT mK 16 0) _ _ _ (f173_0) (by omega) (by (rw [fT_ne _ _ (by omega)]); exact v_x19) (fun q h1 h2 => by (rw [fT_ne _ _ (by omega)]); exact ho1 q h1 h2) (by omega) hP hD hS hl) ?_
      intro n9
      induction n9 with
      | zero => intro k6 x24_F0 x24_F2 x24_F3 x24_G1 m3 H locs ls hB3 hk6 h193 ho3 hf9; exact False.elim (by omega)
      | succ n9 ih179_1 =>
        intro k6 x24_F0 x24_F2 x24_F3 x24_G1 m3 H locs ls hB3 hk6 h193 ho3 hf179_1 hP hD hS hl
        refine lv_iload hx hb dX12_keep_179 (lv_at hl 6 rfl) ?_
        refine lv_bipush (v := 9) hx hb dX12_keep_181 (by decide) ?_
        refine lv_icmp_ge (tgt := 216) hx hb dX12_keep_183 (by decide) (fun c_183 => ?_) (fun c_183 => ?_)
        · have t_183 : ((k6 : Nat) : Int) ≥ 9 := toI_ge c_183 (nI_toInt (by omega)) (by decide)
          refine lv_iconst (v := 0) hx hb dX12_keep_216 (by decide) ?_
          refine lv_istore hx hb dX12_keep_217 hl (by decide) rfl (fun ls (hl : lv_has ls _ ([(6, .int 0), (0, .ref h0), (1, .int (nI rN)), (2, .int (nI wN)), (3, .int sI), (4, .int pI), (5, .int (nI (9 * ((3 * rN) + wN))))])) => ?_)
          have e9 : fT (fT (fT (fT vF 0 x24_F0) 2 x24_F2) 3 x24_F3) 60 (vF 60) = fT (fT (fT vF 0 x24_F0) 2 x24_F2) 3 x24_F3 := id_3 rfl
          have hP := wr_PF e9 hP
          have hD := wr_DF e9 hD
          clear e9
          have hl : lv_has _ _ ([(0, .ref h0), (1, .int (nI rN)), (2, .int (nI wN)), (3, .int sI), (4, .int pI), (5, .int (nI (9 * ((3 * rN) + wN)))), (6, .int (nI 0))]) := lv_sub hl [1, 2, 3, 4, 5, 6, 0] rfl
          refine (fun (loop : ∀ (n9 : Nat) (k7 : Nat) (f60x : Nat → Int32) (x28_F0 : Nat → Int32) (x28_F2 : Nat → Int32) (x28_F3 : Nat → Int32) (x28_G1 : Nat → Int64) (m4 : Nat → Int) (H : Heap) (locs : List Loc) (ls : Array Slot), (Bg x28_F0 m4) → (k7 ≤ 9) → (m4 19 = x19) → (WnO f60x) → (∀ q, (q < 10 ∨ 19 < q) → (q < 5 ∨ 8 < q) → m4 q = mg q) →  (9 < k7 + n9) → va_P (dC, dI) vwCl (WR a k h0 vi vj (fT (fT (fT (fT vF 0 x28_F0) 2 x28_F2) 3 x28_F3) 60 f60x) (fT vG 1 x28_G1)) H → va_D A (WR a k h0 vi vj (fT (fT (fT (fT vF 0 x28_F0) 2 x28_F2) 3 x28_F3) 60 f60x) (fT vG 1 x28_G1)) → va_S A s.heap H locs → lv_has ls 12 [(0, .ref h0), (1, .int (nI rN)), (2, .int (nI wN)), (3, .int sI), (4, .int pI), (5, .int (nI (9 * ((3 * rN) + wN)))), (6, .int (nI k7))] → W p l e _ s m _ below meth c H locs 0 0 _ (F0 m 219 ls [])) => loop (10) 0 (vF 60) x24_F0 x24_F2 x24_F3 x24_G1 m3 _ _ _ (hB3) (by omega) (h193) (hWn) (ho3) (by omega) hP hD hS hl) ?_
          intro n9
          induction n9 with
          | zero => intro k7 f60x x28_F0 x28_F2 x28_F3 x28_G1 m4 H locs ls hB4 hk7 h194 hW4 ho4 hf9; exact False.elim (by omega)
          | succ n9 ih219_2 =>
            intro k7 f60x x28_F0 x28_F2 x28_F3 x28_G1 m4 H locs ls hB4 hk7 h194 hW4 ho4 hf219_2 hP hD hS hl
            refine lv_iload hx hb dX12_keep_219 (lv_at hl 6 rfl) ?_
            refine lv_bipush (v := 9) hx hb dX12_keep_221 (by decide) ?_
            refine lv_icmp_ge (tgt := 345) hx hb dX12_keep_223 (by decide) (fun c_223 => ?_) (fun c_223 => ?_)
            · have t_223 : ((k7 : Nat) : Int) ≥ 9 := toI_ge c_223 (nI_toInt (by omega)) (by decide)
              refine lv_aload_n hx hb dX12_keep_345 rfl (lv_at hl 0 rfl) ?_
              refine va_get (D := (dC, dI)) (ci := 12) (v := .ref (a 61)) (C := RX12) (T := TX12) (N := 163) (fs := fM (vS a vi vj)) hx hb hts iwsRX12_keep_in12 hown hK hP 0 rfl rfl 101 (by decide) (hts (.fieldLink RX12 206 "OptimaWorksModel" "waySign" "[I") (by decide +kernel)) (fun _ h9 => h9) rfl dX12_keep_346 ?_
              refine lv_iconst (v := 3) hx hb dX12_keep_349 (by decide) ?_
              refine lv_iload_n hx hb dX12_keep_350 rfl (lv_at hl 1 rfl) ?_
              refine lv_imul hx hb dX12_keep_351 ?_
              refine lv_topi (fun y4 hy4 => ?_)
              obtain rfl : (nI (3 * rN)) = y4 := (hy4.trans (pk_mul 3 rN)).symm
              refine lv_iload_n hx hb dX12_keep_352 rfl (lv_at hl 2 rfl) ?_
              refine lv_iadd hx hb dX12_keep_353 ?_
              refine lv_topi (fun y5 hy5 => ?_)
              obtain rfl : (nI ((3 * rN) + wN)) = y5 := (hy5.trans (nI_add (3 * rN) wN)).symm
              refine lv_iload_n hx hb dX12_keep_354 rfl (lv_at hl 3 rfl) ?_
              refine va_iast (cA := k 61) (n := 39) (f := (vF 61)) hx hb hK hP hD hS 62 61 (WR_get 61 (by decide)) (TR_get 61 (by decide)) (vp_in_nI (show ((3 * rN) + wN) < 39 by omega) (by omega)) dX12_keep_355 (fun H locs hP hD hS => ?_)
              have hP : va_P (dC, dI) vwCl (WR a k h0 vi vj (fT (fT (fT (fT (fT vF 0 x28_F0) 2 x28_F2) 3 x28_F3) 60 f60x) 61 (upd (vF 61) ((nI ((3 * rN) + wN))).toNatClampNeg sI)) (fT vG 1 x28_G1)) H := fz_w (WR_F 61 (by decide) _ rfl) hP
              have hD : va_D A (WR a k h0 vi vj (fT (fT (fT (fT (fT vF 0 x28_F0) 2 x28_F2) 3 x28_F3) 60 f60x) 61 (upd (vF 61) ((nI ((3 * rN) + wN))).toNatClampNeg sI)) (fT vG 1 x28_G1)) := fz_wD (WR_F 61 (by decide) _ rfl) hD
              refine W.widen (k := 0) (n := 0) (by decide +kernel) (by decide +kernel) ?_
              have e9 : fT (fT vi 21 (vi 21)) 22 (vi 22) = vi := (fT_id _ _ (fT_ne _ _ (Nat.ne_of_beq_eq_false rfl))).trans (fT_id _ _ (rfl))
              have hP := wr_Pi e9 hP
              have hD := wr_Di e9 hD
              clear e9
              exact W.vret hx hb hr (fun t9_ ht hW => ⟨⟨(x28_F0, x28_F2, x28_F3, x28_G1, f60x, (upd (vF 61) ((nI ((3 * rN) + wN))).toNatClampNeg sI), (vi 21), (vi 22), m4), rfl, by (try dsimp only); exact ⟨hB4, hW4, hst0, Or.inl rfl, ho4⟩, by rw [ht]; exact hP, hD⟩, hS.F ht⟩) hS.2.2 dX12_keep_356
            · have t_223 : ¬ ((k7 : Nat) : Int) ≥ 9 := toI_nge c_223 (nI_toInt (by omega)) (by decide)
              refine lv_aload_n hx hb dX12_keep_226 rfl (lv_at hl 0 rfl) ?_
              refine lv_iload hx hb dX12_keep_227 (lv_at hl 6 rfl) ?_
              have hFc := allFree hD hS hA
              refine va_callv (va_runV (As := [.int (nI k7)]) (rest := []) ⟨hx, hb, hml, hown, hts⟩ (r_X12_whole1 l dC dI a k h0 vi vj (fT (fT (fT (fT vF 0 x28_F0) 2 x28_F2) 3 x28_F3) 60 f60x) (fT vG 1 x28_G1) k7 m4 hB4 (by first | with_reducible assumption | decide | omega | rfl | assumption) (by first | with_reducible assumption | decide | omega | rfl | assumption) (by first | with_reducible assumption | decide | omega | rfl | assumption) (by rw [h194]; exact h19c) H.size) (cwV 1 hts gwsRX12_keep_1 rfl rfl rfl hd_yX12_whole1_RX12 (by decide +kernel)) (fz_pre (va_recv hK hP (ci := 12) (q0 := 0) rfl rfl) hP hK hD) rfl rfl hl.1 rfl (lv_room (Nat.le_of_ble_eq_true rfl)) dX12_keep_229 (by decide +kernel)) hS (fun q _ h => hFc q h) hFc (fun u t9_ H locs ht hvm hw9 hB9 hz1 hk1 hS => ?_)
              revert u hw9 hB9
              refine fz_p5 ?_
              intro g229 f2w229 f3w229 gs229 m2229 hw9 hB9
              try dsimp only at hw9 hB9
              have e9F : fT (fT (fT (fT vF 0 g229) 2 f2w229) 3 f3w229) 60 f60x = fT (fT (fT (fT (fT (fT (fT vF 0 x28_F0) 2 x28_F2) 3 x28_F3) 60 f60x) 0 g229) 2 f2w229) 3 f3w229 := Eq.symm (Eq.trans (congrArg (fun g9 => fT g9 3 f3w229) (Eq.trans (congrArg (fun g9 => fT g9 2 f2w229) (up_3 rfl)) (up_2 rfl))) (up_1 rfl))
              have e9G : fT vG 1 gs229 = fT (fT vG 1 x28_G1) 1 gs229 := (fT_sm _ _ _ _).symm
              have hP := wr_PG e9G (wr_PF e9F (fz_P ht hB9.1))
              have hD := wr_DG e9G (wr_DF e9F (hB9.2.weaken (fun _ q _ h => hFc q.1 h)))
              clear e9F e9G
              revert hw9
              refine fz_a2 ?_
              intro f229_0 f229_1
              refine lv_aload_n hx hb dX12_keep_232 rfl (lv_at hl 0 rfl) ?_
              refine lv_bipush (v := 16) hx hb dX12_keep_233 (by decide) ?_
              have hFc := allFree hD hS hA
              refine va_calli (va_runV (As := [.int 16]) (rest := []) ⟨hx, hb, hml, hown, hts⟩ (b_X12_sign l dC dI a k h0 vi vj (fT (fT (fT (fT vF 0 g229) 2 f2w229) 3 f3w229) 60 f60x) (fT vG 1 gs229) 16 m2229 f229_0 (m4 16) (by rw [f229_1 _ (by omega) (by omega)]) (by first | with_reducible assumption | decide | omega | rfl | assumption) H.size) (cwV 1 hts gwsRX12_keep_2 rfl rfl rfl hd_yX12_sign_RX12 (by decide +kernel)) (fz_pre (va_recv hK hP (ci := 12) (q0 := 0) rfl rfl) hP hK hD) rfl rfl hl.1 rfl (lv_room (Nat.le_of_ble_eq_true rfl)) dX12_keep_235 (by decide +kernel)) hS (fun q _ h => hFc q h) hFc (fun r235 u t9_ H locs ht hvm hw9 hB9 hz1 hk1 hS => ?_)
              have hP : va_P (dC, dI) vwCl (WR a k h0 vi vj (fT (fT (fT (fT vF 0 g229) 2 f2w229) 3 f3w229) 60 f60x) (fT vG 1 gs229)) H := fz_P ht hB9.1
              have hD := fz_sd hP (hB9.2.weaken (fun _ q _ h => hFc q.1 h)) rfl
              have f235_0 := hw9
              try dsimp only at f235_0
              refine W.cut (pc := 261) (fun H locs ls stk => ∃ (j29_F0 : Nat → Int32) (j29_F2 : Nat → Int32) (j29_F3 : Nat → Int32) (j29_G1 : Nat → Int64) (m5 : Nat → Int) (x17 : Int), (Bg j29_F0 m5) ∧ (m5 17 = x17) ∧ (m5 19 = x19) ∧ (∀ q, (q < 10 ∨ 19 < q) → (q < 5 ∨ 8 < q) → m5 q = mg q) ∧  stk = [] ∧ va_P (dC, dI) vwCl (WR a k h0 vi vj (fT (fT (fT (fT vF 0 j29_F0) 2 j29_F2) 3 j29_F3) 60 f60x) (fT vG 1 j29_G1)) H ∧ va_D A (WR a k h0 vi vj (fT (fT (fT (fT vF 0 j29_F0) 2 j29_F2) 3 j29_F3) 60 f60x) (fT vG 1 j29_G1)) ∧ va_S A s.heap H locs ∧ lv_has ls 12 [(0, .ref h0), (1, .int (nI rN)), (2, .int (nI wN)), (3, .int sI), (4, .int pI), (5, .int (nI (9 * ((3 * rN) + wN)))), (6, .int (nI k7))]) (fun join1 => ?_) ?_
              · refine lv_if_le (tgt := 261) hx hb dX12_keep_238 (by decide) (fun c_238 => ?_) (fun c_238 => ?_)
                · have t_238 : (r235).toInt ≤ 0 := toI_le c_238 rfl (by decide)
                  have hl : lv_has _ _ ([(0, .ref h0), (1, .int (nI rN)), (2, .int (nI wN)), (3, .int sI), (4, .int pI), (5, .int (nI (9 * ((3 * rN) + wN)))), (6, .int (nI k7))]) := lv_sub hl [0, 1, 2, 3, 4, 5, 6] rfl
                  exact join1 _ _ _ _ ⟨g229, f2w229, f3w229, gs229, m2229, (m2229 17), f229_0, rfl, by (rw [f229_1 _ (by omega) (by omega)]); exact h194, fun q h1 h2 => by (rw [f229_1 _ (by omega) (by omega)]); exact ho4 q h1 h2, rfl, hP, hD, hS, hl⟩
                · have t_238 : ¬ (r235).toInt ≤ 0 := toI_nle c_238 rfl (by decide)
                  refine lv_aload_n hx hb dX12_keep_241 rfl (lv_at hl 0 rfl) ?_
                  refine lv_bipush (v := 13) hx hb dX12_keep_242 (by decide) ?_
                  refine lv_bipush (v := 14) hx hb dX12_keep_244 (by decide) ?_
                  refine lv_bipush (v := 17) hx hb dX12_keep_246 (by decide) ?_
                  refine lv_bipush (v := 16) hx hb dX12_keep_248 (by decide) ?_
                  have hFc := allFree hD hS hA
                  refine va_callv (va_runV (As := [.int 13, .int 14, .int 17, .int 16]) (rest := []) ⟨hx, hb, hml, hown, hts⟩ (b_X12_divide l dC dI a k h0 vi vj (fT (fT (fT (fT vF 0 g229) 2 f2w229) 3 f3w229) 60 f60x) (fT vG 1 gs229) 13 14 17 16 m2229 f229_0 (m2229 17) (m4 16) rfl (by rw [f229_1 _ (by omega) (by omega)]) (by first | with_reducible assumption | decide | omega | rfl | assumption) (by first | with_reducible assumption | decide | omega | rfl | assumption) (by first | with_reducible assumption | decide | omega | rfl | assumption) (by first | with_reducible assumption | decide | omega | rfl | assumption) (by first | with_reducible assumption | decide | omega | rfl | assumption) (by first | with_reducible assumption | decide | omega | rfl | assumption) (by omega) H.size) (cwV 4 hts gwsRX12_keep_3 rfl rfl rfl hd_yX12_divide_RX12 (by decide +kernel)) (fz_pre (va_recv hK hP (ci := 12) (q0 := 0) rfl rfl) hP hK hD) rfl rfl hl.1 rfl (lv_room (Nat.le_of_ble_eq_true rfl)) dX12_keep_250 (by decide +kernel)) hS (fun q _ h => hFc q h) hFc (fun u t9_ H locs ht hvm hw9 hB9 hz1 hk1 hS => ?_)
                  revert u hw9 hB9
                  refine fz_p4 ?_
                  intro g250 f2w250 f3w250 gs250 hw9 hB9
                  try dsimp only at hw9 hB9
                  have e9F : fT (fT (fT (fT vF 0 g250) 2 f2w250) 3 f3w250) 60 f60x = fT (fT (fT (fT (fT (fT (fT vF 0 g229) 2 f2w229) 3 f3w229) 60 f60x) 2 f2w250) 3 f3w250) 0 g250 := Eq.symm (Eq.trans (congrArg (fun g9 => fT g9 0 g250) (Eq.trans (congrArg (fun g9 => fT g9 3 f3w250) (up_2 rfl)) (up_1 rfl))) (up_3 rfl))
                  have e9G : fT vG 1 gs250 = fT (fT vG 1 gs229) 1 gs250 := (fT_sm _ _ _ _).symm
                  have hP := wr_PG e9G (wr_PF e9F (fz_P ht hB9.1))
                  have hD := wr_DG e9G (wr_DF e9F (hB9.2.weaken (fun _ q _ h => hFc q.1 h)))
                  clear e9F e9G
                  have f250_0 := hw9
                  try dsimp only at f250_0
                  refine lv_aload_n hx hb dX12_keep_253 rfl (lv_at hl 0 rfl) ?_
                  refine lv_bipush (v := 17) hx hb dX12_keep_254 (by decide) ?_
                  refine lv_bipush (v := 13) hx hb dX12_keep_256 (by decide) ?_
                  have hFc := allFree hD hS hA
                  refine va_callv (va_runV (As := [.int 17, .int 13]) (rest := []) ⟨hx, hb, hml, hown, hts⟩ (b_X12_copy l dC dI a k h0 vi vj (fT (fT (fT (fT vF 0 g250) 2 f2w250) 3 f3w250) 60 f60x) (fT vG 1 gs250) 17 13 (fT (fT m2229 13 (((m2229 17)).tdiv (m4 16))) 14 (((m2229 17)).tmod (m4 16))) f250_0 (((m2229 17)).tdiv (m4 16)) (by rw [fT_ne _ _ (by omega), fT_eq]) (by first | with_reducible assumption | decide | omega | rfl | assumption) (by first | with_reducible assumption | decide | omega | rfl | assumption) (by first | with_reducible assumption | decide | omega | rfl | assumption) H.size) (cwV 2 hts gwsRX12_keep_4 rfl rfl rfl hd_yX12_copy_RX12 (by decide +kernel)) (fz_pre (va_recv hK hP (ci := 12) (q0 := 0) rfl rfl) hP hK hD) rfl rfl hl.1 rfl (lv_room (Nat.le_of_ble_eq_true rfl)) dX12_keep_258 (by decide +kernel)) hS (fun q _ h => hFc q h) hFc (fun g258 t9_ H locs ht hvm hw9 hB9 hz1 hk1 hS => ?_)
                  have e9F : fT (fT (fT (fT vF 0 g258) 2 f2w250) 3 f3w250) 60 f60x = fT (fT (fT (fT (fT vF 0 g250) 2 f2w250) 3 f3w250) 60 f60x) 0 g258 := ((fT_sw _ _ _ (Nat.ne_of_beq_eq_false rfl)).trans (congrArg (fun g9 => fT g9 60 f60x) ((fT_sw _ _ _ (Nat.ne_of_beq_eq_false rfl)).trans (congrArg (fun g9 => fT g9 3 f3w250) ((fT_sw _ _ _ (Nat.ne_of_beq_eq_false rfl)).trans (congrArg (fun g9 => fT g9 2 f2w250) (fT_sm _ _ _ _))))))).symm
                  have hP := wr_PF e9F (fz_P ht hB9.1)
                  have hD := wr_DF e9F (hB9.2.weaken (fun _ q _ h => hFc q.1 h))
                  clear e9F
                  have f258_0 := hw9
                  try dsimp only at f258_0
                  have hl : lv_has _ _ ([(0, .ref h0), (1, .int (nI rN)), (2, .int (nI wN)), (3, .int sI), (4, .int pI), (5, .int (nI (9 * ((3 * rN) + wN)))), (6, .int (nI k7))]) := lv_sub hl [0, 1, 2, 3, 4, 5, 6] rfl
                  exact join1 _ _ _ _ ⟨g258, f2w250, f3w250, gs250, (fT (fT (fT m2229 13 (((m2229 17)).tdiv (m4 16))) 14 (((m2229 17)).tmod (m4 16))) 17 (((m2229 17)).tdiv (m4 16))), (((m2229 17)).tdiv (m4 16)), f258_0, (by rw [fT_eq]), by (rw [fT_ne _ _ (by omega), fT_ne _ _ (by omega), fT_ne _ _ (by omega), f229_1 _ (by omega) (by omega)]); exact h194, fun q h1 h2 => by (rw [fT_ne _ _ (by omega), fT_ne _ _ (by omega), fT_ne _ _ (by omega), f229_1 _ (by omega) (by omega)]); exact ho4 q h1 h2, rfl, hP, hD, hS, hl⟩
              · rintro H locs ls stk ⟨j29_F0, j29_F2, j29_F3, j29_G1, m5, x17, hB5, v_x17, h195, ho5, rfl, hP, hD, hS, hl⟩
                refine lv_aload_n hx hb dX12_keep_261 rfl (lv_at hl 0 rfl) ?_
                refine lv_bipush (v := 18) hx hb dX12_keep_262 (by decide) ?_
                refine lv_iload hx hb dX12_keep_264 (lv_at hl 6 rfl) ?_
                refine W.cut (pc := 278) (fun H locs ls stk => ∃ (v9 : Int64), (v9.toInt = if k7 = 0 then 99999 else 99) ∧  stk = [.long v9, .int 18, .ref h0] ∧ va_P (dC, dI) vwCl (WR a k h0 vi vj (fT (fT (fT (fT vF 0 j29_F0) 2 j29_F2) 3 j29_F3) 60 f60x) (fT vG 1 j29_G1)) H ∧ va_D A (WR a k h0 vi vj (fT (fT (fT (fT vF 0 j29_F0) 2 j29_F2) 3 j29_F3) 60 f60x) (fT vG 1 j29_G1)) ∧ va_S A s.heap H locs ∧ lv_has ls 12 [(0, .ref h0), (1, .int (nI rN)), (2, .int (nI wN)), (3, .int sI), (4, .int pI), (5, .int (nI (9 * ((3 * rN) + wN)))), (6, .int (nI k7))]) (fun join2 => ?_) ?_
                · refine lv_if_ne (tgt := 275) hx hb dX12_keep_266 (by decide) (fun c_266 => ?_) (fun c_266 => ?_)
                  · have t_266 : ((k7 : Nat) : Int) ≠ 0 := toI_ne c_266 (nI_toInt (by omega)) (by decide)
                    refine lv_ldc2 (v := 99) hx hb hown (hts (.constantLong RX12 797 99) (by decide +kernel)) dX12_keep_275 ?_
                    have hl : lv_has _ _ ([(0, .ref h0), (1, .int (nI rN)), (2, .int (nI wN)), (3, .int sI), (4, .int pI), (5, .int (nI (9 * ((3 * rN) + wN)))), (6, .int (nI k7))]) := lv_sub hl [0, 1, 2, 3, 4, 5, 6] rfl
                    exact join2 _ _ _ _ ⟨99, by rw [if_neg (by omega)]; decide, rfl, hP, hD, hS, hl⟩
                  · have t_266 : ((k7 : Nat) : Int) = 0 := toI_nne c_266 (nI_toInt (by omega)) (by decide)
                    refine lv_ldc2 (v := 99999) hx hb hown (hts (.constantLong RX12 795 99999) (by decide +kernel)) dX12_keep_269 ?_
                    refine lv_goto (tgt := 278) hx hb dX12_keep_272 (by decide) ?_
                    have hl : lv_has _ _ ([(0, .ref h0), (1, .int (nI rN)), (2, .int (nI wN)), (3, .int sI), (4, .int pI), (5, .int (nI (9 * ((3 * rN) + wN)))), (6, .int (nI k7))]) := lv_sub hl [0, 1, 2, 3, 4, 5, 6] rfl
                    exact join2 _ _ _ _ ⟨99999, by rw [if_pos (by omega)]; decide, rfl, hP, hD, hS, hl⟩
                · rintro H locs ls stk ⟨v9, hv9, rfl, hP, hD, hS, hl⟩
                  have hFc := allFree hD hS hA
                  refine va_callv (va_runV (As := [.int 18, .long v9]) (rest := []) ⟨hx, hb, hml, hown, hts⟩ (b_X12_put l dC dI a k h0 vi vj (fT (fT (fT (fT vF 0 j29_F0) 2 j29_F2) 3 j29_F3) 60 f60x) (fT vG 1 j29_G1) 18 v9 ((v9).toInt) m5 hB5 (by first | with_reducible assumption | decide | omega | rfl | assumption) rfl (by first | with_reducible assumption | decide | omega | rfl | assumption) H.size) (cwV 2 hts gwsRX12_keep_0 rfl rfl rfl hd_yX12_put_RX12 (by decide +kernel)) (fz_pre (va_recv hK hP (ci := 12) (q0 := 0) rfl rfl) hP hK hD) rfl rfl hl.1 rfl (lv_room (Nat.le_of_ble_eq_true rfl)) dX12_keep_278 (by decide +kernel)) hS (fun q _ h => hFc q h) hFc (fun g278 t9_ H locs ht hvm hw9 hB9 hz1 hk1 hS => ?_)
                  have e9F : fT (fT (fT (fT vF 0 g278) 2 j29_F2) 3 j29_F3) 60 f60x = fT (fT (fT (fT (fT vF 0 j29_F0) 2 j29_F2) 3 j29_F3) 60 f60x) 0 g278 := ((fT_sw _ _ _ (Nat.ne_of_beq_eq_false rfl)).trans (congrArg (fun g9 => fT g9 60 f60x) ((fT_sw _ _ _ (Nat.ne_of_beq_eq_false rfl)).trans (congrArg (fun g9 => fT g9 3 j29_F3) ((fT_sw _ _ _ (Nat.ne_of_beq_eq_false rfl)).trans (congrArg (fun g9 => fT g9 2 j29_F2) (fT_sm _ _ _ _))))))).symm
                  have hP := wr_PF e9F (fz_P ht hB9.1)
                  have hD := wr_DF e9F (hB9.2.weaken (fun _ q _ h => hFc q.1 h))
                  clear e9F
                  have f278_0 := hw9
                  try dsimp only at f278_0
                  refine lv_aload_n hx hb dX12_keep_281 rfl (lv_at hl 0 rfl) ?_
                  refine lv_bipush (v := 17) hx hb dX12_keep_282 (by decide) ?_
                  refine lv_bipush (v := 18) hx hb dX12_keep_284 (by decide) ?_
                  have hFc := allFree hD hS hA
                  refine va_calli (va_runV (As := [.int 17, .int 18]) (rest := []) ⟨hx, hb, hml, hown, hts⟩ (b_X12_bare l dC dI a k h0 vi vj (fT (fT (fT (fT vF 0 g278) 2 j29_F2) 3 j29_F3) 60 f60x) (fT vG 1 j29_G1) 17 18 (fT m5 18 ((v9).toInt)) f278_0 x17 ((v9).toInt) (by rw [fT_ne _ _ (by omega), v_x17]) (by rw [fT_eq]) (by first | with_reducible assumption | decide | omega | rfl | assumption) (by first | with_reducible assumption | decide | omega | rfl | assumption) H.size) (cwV 2 hts gwsRX12_keep_5 rfl rfl rfl hd_yX12_bare_RX12 (by decide +kernel)) (fz_pre (va_recv hK hP (ci := 12) (q0 := 0) rfl rfl) hP hK hD) rfl rfl hl.1 rfl (lv_room (Nat.le_of_ble_eq_true rfl)) dX12_keep_286 (by decide +kernel)) hS (fun q _ h => hFc q h) hFc (fun r286 u t9_ H locs ht hvm hw9 hB9 hz1 hk1 hS => ?_)
                  have hP : va_P (dC, dI) vwCl (WR a k h0 vi vj (fT (fT (fT (fT vF 0 g278) 2 j29_F2) 3 j29_F3) 60 f60x) (fT vG 1 j29_G1)) H := fz_P ht hB9.1
                  have hD := fz_sd hP (hB9.2.weaken (fun _ q _ h => hFc q.1 h)) rfl
                  revert hw9
                  refine fz_a2 ?_
                  intro f286_0 f286_1
                  refine lv_if_le (tgt := 300) hx hb dX12_keep_289 (by decide) (fun c_289 => ?_) (fun c_289 => ?_)
                  · have t_289 : (r286).toInt ≤ 0 := toI_le c_289 rfl (by decide)
                    have hb17 : x17.natAbs ≤ (if k7 = 0 then 99999 else 99) := by (have h8 : v9.toInt.natAbs = (if k7 = 0 then 99999 else 99) := by rw [hv9]; split <;> rfl); rw [← h8]; omega
                    refine lv_aload_n hx hb dX12_keep_300 rfl (lv_at hl 0 rfl) ?_
                    refine va_get (D := (dC, dI)) (ci := 12) (v := .int (vi 21)) (C := RX12) (T := TX12) (N := 163) (fs := fM (vS a vi vj)) hx hb hts iwsRX12_keep_in12 hown hK hP 0 rfl rfl 21 (by decide) (hts _ hm_r_X12_keep_0) (fun _ h9 => h9) rfl dX12_keep_301 ?_
                    refine lv_if_le (tgt := 308) hx hb dX12_keep_304 (by decide) (fun c_304 => ?_) (fun c_304 => ?_)
                    · have t_304 : ((vi 21)).toInt ≤ 0 := toI_le c_304 rfl (by decide)
                      refine lv_aload_n hx hb dX12_keep_308 rfl (lv_at hl 0 rfl) ?_
                      refine lv_bipush (v := 17) hx hb dX12_keep_309 (by decide) ?_
                      have hFc := allFree hD hS hA
                      refine va_calli (va_runV (As := [.int 17]) (rest := []) ⟨hx, hb, hml, hown, hts⟩ (r_X12_small l dC dI a k h0 vi vj (fT (fT (fT (fT vF 0 g278) 2 j29_F2) 3 j29_F3) 60 f60x) (fT vG 1 j29_G1) 17 (fT m5 18 ((v9).toInt)) f278_0 x17 (by rw [fT_ne _ _ (by omega), v_x17]) (by first | with_reducible assumption | decide | omega | rfl | assumption) H.size) (cwV 1 hts gwsRX12_keep_6 rfl rfl rfl hd_yX12_small_RX12 (by decide +kernel)) (fz_pre (va_recv hK hP (ci := 12) (q0 := 0) rfl rfl) hP hK hD) rfl rfl hl.1 rfl (lv_room (Nat.le_of_ble_eq_true rfl)) dX12_keep_311 (by decide +kernel)) hS (fun q _ h => hFc q h) hFc (fun r311 u t9_ H locs ht hvm hw9 hB9 hz1 hk1 hS => ?_)
                      have hP : va_P (dC, dI) vwCl (WR a k h0 vi vj (fT (fT (fT (fT vF 0 g278) 2 j29_F2) 3 j29_F3) 60 f60x) (fT vG 1 j29_G1)) H := fz_P ht hB9.1
                      have hD := fz_sd hP (hB9.2.weaken (fun _ q _ h => hFc q.1 h)) rfl
                      revert hw9
                      refine fz_a2 ?_
                      intro f311_0 f311_1
                      have hv7 : (r311).toInt.natAbs ≤ (if k7 = 0 then 99999 else 99) := by (have h9 := f311_1 (by (have h7 := hb17); split at h7 <;> omega)); rw [h9]; exact hb17
                      refine lv_istore hx hb dX12_keep_314 hl (by decide) rfl (fun ls (hl : lv_has ls _ ([(7, .int r311), (0, .ref h0), (1, .int (nI rN)), (2, .int (nI wN)), (3, .int sI), (4, .int pI), (5, .int (nI (9 * ((3 * rN) + wN)))), (6, .int (nI k7))])) => ?_)
                      refine lv_aload_n hx hb dX12_keep_316 rfl (lv_at hl 1 rfl) ?_
                      refine va_get (D := (dC, dI)) (ci := 12) (v := .ref (a 60)) (C := RX12) (T := TX12) (N := 163) (fs := fM (vS a vi vj)) hx hb hts iwsRX12_keep_in12 hown hK hP 0 rfl rfl 100 (by decide) (hts (.fieldLink RX12 203 "OptimaWorksModel" "wayNumber" "[I") (by decide +kernel)) (fun _ h9 => h9) rfl dX12_keep_317 ?_
                      refine lv_iload hx hb dX12_keep_320 (lv_at hl 6 rfl) ?_
                      refine lv_iload hx hb dX12_keep_322 (lv_at hl 7 rfl) ?_
                      refine lv_iadd hx hb dX12_keep_324 ?_
                      refine lv_topi (fun y6 hy6 => ?_)
                      obtain rfl : (nI ((9 * ((3 * rN) + wN)) + k7)) = y6 := (hy6.trans (nI_add (9 * ((3 * rN) + wN)) k7)).symm
                      refine lv_iload hx hb dX12_keep_325 (lv_at hl 7 rfl) ?_
                      refine W.cut (pc := 338) (fun H locs ls stk => ∃ (v8 : Int32), ((v8).toInt.natAbs ≤ (if k7 = 0 then 99999 else 99)) ∧  stk = [.int v8, .int (nI ((9 * ((3 * rN) + wN)) + k7)), .ref (a 60)] ∧ va_P (dC, dI) vwCl (WR a k h0 vi vj (fT (fT (fT (fT vF 0 g278) 2 j29_F2) 3 j29_F3) 60 f60x) (fT vG 1 j29_G1)) H ∧ va_D A (WR a k h0 vi vj (fT (fT (fT (fT vF 0 g278) 2 j29_F2) 3 j29_F3) 60 f60x) (fT vG 1 j29_G1)) ∧ va_S A s.heap H locs ∧ lv_has ls 12 [(7, .int r311), (0, .ref h0), (1, .int (nI rN)), (2, .int (nI wN)), (3, .int sI), (4, .int pI), (5, .int (nI (9 * ((3 * rN) + wN)))), (6, .int (nI k7))]) (fun join3 => ?_) ?_
                      · refine lv_if_ne (tgt := 336) hx hb dX12_keep_327 (by decide) (fun c_327 => ?_) (fun c_327 => ?_)
                        · have t_327 : ((k7 : Nat) : Int) ≠ 0 := toI_ne c_327 (nI_toInt (by omega)) (by decide)
                          refine lv_iload hx hb dX12_keep_336 (lv_at hl 0 rfl) ?_
                          have hl : lv_has _ _ ([(7, .int r311), (0, .ref h0), (1, .int (nI rN)), (2, .int (nI wN)), (3, .int sI), (4, .int pI), (5, .int (nI (9 * ((3 * rN) + wN)))), (6, .int (nI k7))]) := lv_sub hl [0, 1, 2, 3, 4, 5, 6, 7] rfl
                          exact join3 _ _ _ _ ⟨r311, hv7, rfl, hP, hD, hS, hl⟩
                        · have t_327 : ((k7 : Nat) : Int) = 0 := toI_nne c_327 (nI_toInt (by omega)) (by decide)
                          refine lv_iload hx hb dX12_keep_330 (lv_at hl 0 rfl) ?_
                          refine lv_ineg hx hb dX12_keep_332 ?_
                          refine lv_goto (tgt := 338) hx hb dX12_keep_333 (by decide) ?_
                          have hl : lv_has _ _ ([(7, .int r311), (0, .ref h0), (1, .int (nI rN)), (2, .int (nI wN)), (3, .int sI), (4, .int pI), (5, .int (nI (9 * ((3 * rN) + wN)))), (6, .int (nI k7))]) := lv_sub hl [0, 1, 2, 3, 4, 5, 6, 7] rfl
                          exact join3 _ _ _ _ ⟨(-r311), (neg32 (b := (if k7 = 0 then 99999 else 99)) hv7 (by split <;> omega)).1, rfl, hP, hD, hS, hl⟩
                      · rintro H locs ls stk ⟨v8, hv8, rfl, hP, hD, hS, hl⟩
                        refine va_iast (cA := k 60) (n := 351) (f := f60x) hx hb hK hP hD hS 61 60 (WR_get 60 (by decide)) (TR_get 60 (by decide)) (vp_in_nI (show ((9 * ((3 * rN) + wN)) + k7) < 351 by omega) (by omega)) dX12_keep_338 (fun H locs hP hD hS => ?_)
                        have e9 : fT (fT (fT (fT vF 0 g278) 2 j29_F2) 3 j29_F3) 60 (upd f60x ((nI ((9 * ((3 * rN) + wN)) + k7))).toNatClampNeg v8) = fT (fT (fT (fT (fT vF 0 g278) 2 j29_F2) 3 j29_F3) 60 f60x) 60 (upd f60x ((nI ((9 * ((3 * rN) + wN)) + k7))).toNatClampNeg v8) := (fT_sm _ _ _ _).symm
                        have hP := wr_PF e9 (fz_w (WR_F 60 (by decide) _ rfl) hP)
                        have hD := wr_DF e9 (fz_wD (WR_F 60 (by decide) _ rfl) hD)
                        clear e9
                        have hW9 : WnO (upd f60x (nI ((9 * ((3 * rN) + wN)) + k7)).toNatClampNeg v8) := hW4.set (q := 3 * rN + wN) (k := k7) (by omega) (by omega) (fun x hx9 => by rw [upd_at (by omega), if_neg hx9]) (by rw [upd_at (by omega), if_pos rfl]; exact hv8)
                        refine lv_iinc (v := (nI (k7 + 1))) hx hb dX12_keep_339 hl (k := 7) rfl (nI_add k7 1) (by decide) rfl (fun ls (hl : lv_has ls _ ([(6, .int (nI (k7 + 1))), (7, .int r311), (0, .ref h0), (1, .int (nI rN)), (2, .int (nI wN)), (3, .int sI), (4, .int pI), (5, .int (nI (9 * ((3 * rN) + wN))))])) => ?_)
                        refine lv_goto (tgt := 219) hx hb dX12_keep_342 (by decide) ?_
                        have hl : lv_has _ _ ([(0, .ref h0), (1, .int (nI rN)), (2, .int (nI wN)), (3, .int sI), (4, .int pI), (5, .int (nI (9 * ((3 * rN) + wN)))), (6, .int (nI (k7 + 1)))]) := lv_sub hl [2, 3, 4, 5, 6, 7, 0] rfl
                        exact ih219_2 (k7 + 1) (upd f60x ((nI ((9 * ((3 * rN) + wN)) + k7))).toNatClampNeg v8) g278 j29_F2 j29_F3 j29_G1 (fT m5 18 ((v9).toInt)) _ _ _ (f278_0) (by omega) (by (rw [fT_ne _ _ (by omega)]); exact h195) (hW9) (fun q h1 h2 => by (rw [fT_ne _ _ (by omega)]); exact ho5 q h1 h2) (by omega) hP hD hS hl
                    · have t_304 : ¬ ((vi 21)).toInt ≤ 0 := toI_nle c_304 rfl (by decide)
                      refine W.widen (k := 0) (n := 0) (by decide +kernel) (by decide +kernel) ?_
                      have e9 : fT (fT vi 21 (vi 21)) 22 (vi 22) = vi := (fT_id _ _ (fT_ne _ _ (Nat.ne_of_beq_eq_false rfl))).trans (fT_id _ _ (rfl))
                      have hP := wr_Pi e9 hP
                      have hD := wr_Di e9 hD
                      clear e9
                      have e9 : fT (fT (fT (fT (fT vF 0 g278) 2 j29_F2) 3 j29_F3) 60 f60x) 61 (vF 61) = fT (fT (fT (fT vF 0 g278) 2 j29_F2) 3 j29_F3) 60 f60x := fT_id _ _ ((fT_ne _ _ (Nat.ne_of_beq_eq_false rfl)).trans ((fT_ne _ _ (Nat.ne_of_beq_eq_false rfl)).trans ((fT_ne _ _ (Nat.ne_of_beq_eq_false rfl)).trans (fT_ne _ _ (Nat.ne_of_beq_eq_false rfl)))))
                      have hP := wr_PF e9 hP
                      have hD := wr_DF e9 hD
                      clear e9
                      exact W.vret hx hb hr (fun t9_ ht hW => ⟨⟨(g278, j29_F2, j29_F3, j29_G1, f60x, (vF 61), (vi 21), (vi 22), (fT m5 18 ((v9).toInt))), rfl, by (try dsimp only); exact ⟨f278_0, hW4, hst0, Or.inl rfl, fun q h1 h2 => by (rw [fT_ne _ _ (by omega)]); exact ho5 q h1 h2⟩, by rw [ht]; exact hP, hD⟩, hS.F ht⟩) hS.2.2 dX12_keep_307
                  · have t_289 : ¬ (r286).toInt ≤ 0 := toI_nle c_289 rfl (by decide)
                    refine lv_aload_n hx hb dX12_keep_292 rfl (lv_at hl 0 rfl) ?_
                    refine lv_bipush (v := 9) hx hb dX12_keep_293 (by decide) ?_
                    refine lv_iload hx hb dX12_keep_295 (lv_at hl 4 rfl) ?_
                    have hFc := allFree hD hS hA
                    refine va_callv (va_runV (As := [.int 9, .int pI]) (rest := []) ⟨hx, hb, hml, hown, hts⟩ (r_X12_faultAt l dC dI a k h0 vi vj (fT (fT (fT (fT vF 0 g278) 2 j29_F2) 3 j29_F3) 60 f60x) (fT vG 1 j29_G1) 9 pI (by first | with_reducible assumption | decide | omega | rfl | assumption) H.size) (cwV 2 hts gwsRX12_keep_7 rfl rfl rfl hd_yX12_faultAt_RX12 (by decide +kernel)) (fz_pre (va_recv hK hP (ci := 12) (q0 := 0) rfl rfl) hP hK hD) rfl rfl hl.1 rfl (lv_room (Nat.le_of_ble_eq_true rfl)) dX12_keep_297 (by decide +kernel)) hS (fun q _ h => hFc q h) hFc (fun u t9_ H locs ht hvm hw9 hB9 hz1 hk1 hS => ?_)
                    revert u hw9 hB9
                    refine fz_p2 ?_
                    intro s2297 p2297 hw9 hB9
                    try dsimp only at hw9 hB9
                    have hP : va_P (dC, dI) vwCl (WR a k h0 (fT (fT vi 21 s2297) 22 p2297) vj (fT (fT (fT (fT vF 0 g278) 2 j29_F2) 3 j29_F3) 60 f60x) (fT vG 1 j29_G1)) H := fz_P ht hB9.1
                    have hD := fz_sd hP (hB9.2.weaken (fun _ q _ h => hFc q.1 h)) rfl
                    revert hw9
                    refine fz_a2 ?_
                    intro f297_0 f297_1
                    have f297_0 : (0 < (vi 21).toInt ∧ s2297 = (vi 21) ∧ p2297 = (vi 22)) ∨ (¬ 0 < (vi 21).toInt ∧ s2297 = 9 ∧ p2297 = pI) := f297_0
                    refine lv_aload_n hx hb dX12_keep_300 rfl (lv_at hl 0 rfl) ?_
                    refine va_get (D := (dC, dI)) (ci := 12) (v := .int s2297) (C := RX12) (T := TX12) (N := 163) (fs := fM (vS a (fT (fT vi 21 s2297) 22 p2297) vj)) hx hb hts iwsRX12_keep_in12 hown hK hP 0 rfl rfl 21 (by decide) (hts _ hm_r_X12_keep_0) (fun _ h9 => h9) rfl dX12_keep_301 ?_
                    refine lv_if_le (tgt := 308) hx hb dX12_keep_304 (by decide) (fun c9 => False.elim (by have t9 : (s2297).toInt ≤ 0 := toI_le c9 rfl (by decide); omega)) (fun c_304 => ?_)
                    have t_304 : ¬ (s2297).toInt ≤ 0 := toI_nle c_304 rfl (by decide)
                    refine W.widen (k := 0) (n := 0) (by decide +kernel) (by decide +kernel) ?_
                    have e9 : fT (fT (fT (fT (fT vF 0 g278) 2 j29_F2) 3 j29_F3) 60 f60x) 61 (vF 61) = fT (fT (fT (fT vF 0 g278) 2 j29_F2) 3 j29_F3) 60 f60x := fT_id _ _ ((fT_ne _ _ (Nat.ne_of_beq_eq_false rfl)).trans ((fT_ne _ _ (Nat.ne_of_beq_eq_false rfl)).trans ((fT_ne _ _ (Nat.ne_of_beq_eq_false rfl)).trans (fT_ne _ _ (Nat.ne_of_beq_eq_false rfl)))))
                    have hP := wr_PF e9 hP
                    have hD := wr_DF e9 hD
                    clear e9
                    exact W.vret hx hb hr (fun t9_ ht hW => ⟨⟨(g278, j29_F2, j29_F3, j29_G1, f60x, (vF 61), s2297, p2297, (fT m5 18 ((v9).toInt))), rfl, by (try dsimp only); exact ⟨f278_0, hW4, by (have h9 := f297_1); omega, Or.inr f297_1, fun q h1 h2 => by (rw [fT_ne _ _ (by omega)]); exact ho5 q h1 h2⟩, by rw [ht]; exact hP, hD⟩, hS.F ht⟩) hS.2.2 dX12_keep_307
        · have t_183 : ¬ ((k6 : Nat) : Int) ≥ 9 := toI_nge c_183 (nI_toInt (by omega)) (by decide)
          refine lv_aload_n hx hb dX12_keep_186 rfl (lv_at hl 0 rfl) ?_
          refine lv_iload hx hb dX12_keep_187 (lv_at hl 6 rfl) ?_
          have hFc := allFree hD hS hA
          refine va_callv (va_runV (As := [.int (nI k6)]) (rest := []) ⟨hx, hb, hml, hown, hts⟩ (r_X12_whole1 l dC dI a k h0 vi vj (fT (fT (fT vF 0 x24_F0) 2 x24_F2) 3 x24_F3) (fT vG 1 x24_G1) k6 m3 hB3 (by first | with_reducible assumption | decide | omega | rfl | assumption) (by first | with_reducible assumption | decide | omega | rfl | assumption) (by first | with_reducible assumption | decide | omega | rfl | assumption) (by rw [h193]; exact h19c) H.size) (cwV 1 hts gwsRX12_keep_1 rfl rfl rfl hd_yX12_whole1_RX12 (by decide +kernel)) (fz_pre (va_recv hK hP (ci := 12) (q0 := 0) rfl rfl) hP hK hD) rfl rfl hl.1 rfl (lv_room (Nat.le_of_ble_eq_true rfl)) dX12_keep_189 (by decide +kernel)) hS (fun q _ h => hFc q h) hFc (fun u t9_ H locs ht hvm hw9 hB9 hz1 hk1 hS => ?_)
          revert u hw9 hB9
          refine fz_p5 ?_
          intro g189 f2w189 f3w189 gs189 m2189 hw9 hB9
          try dsimp only at hw9 hB9
          have e9F : fT (fT (fT vF 0 g189) 2 f2w189) 3 f3w189 = fT (fT (fT (fT (fT (fT vF 0 x24_F0) 2 x24_F2) 3 x24_F3) 0 g189) 2 f2w189) 3 f3w189 := ((congrArg (fun g9 => fT (fT g9 2 f2w189) 3 f3w189) ((fT_sw _ _ _ (Nat.ne_of_beq_eq_false rfl)).trans (congrArg (fun g9 => fT g9 3 x24_F3) ((fT_sw _ _ _ (Nat.ne_of_beq_eq_false rfl)).trans (congrArg (fun g9 => fT g9 2 x24_F2) (fT_sm _ _ _ _)))))).trans ((congrArg (fun g9 => fT g9 3 f3w189) ((fT_sw _ _ _ (Nat.ne_of_beq_eq_false rfl)).trans (congrArg (fun g9 => fT g9 3 x24_F3) (fT_sm _ _ _ _)))).trans (fT_sm _ _ _ _))).symm
          have e9G : fT vG 1 gs189 = fT (fT vG 1 x24_G1) 1 gs189 := (fT_sm _ _ _ _).symm
          have hP := wr_PG e9G (wr_PF e9F (fz_P ht hB9.1))
          have hD := wr_DG e9G (wr_DF e9F (hB9.2.weaken (fun _ q _ h => hFc q.1 h)))
          clear e9F e9G
          revert hw9
          refine fz_a2 ?_
          intro f189_0 f189_1
          refine lv_aload_n hx hb dX12_keep_192 rfl (lv_at hl 0 rfl) ?_
          refine lv_bipush (v := 12) hx hb dX12_keep_193 (by decide) ?_
          refine lv_bipush (v := 16) hx hb dX12_keep_195 (by decide) ?_
          refine lv_bipush (v := 17) hx hb dX12_keep_197 (by decide) ?_
          have hFc := allFree hD hS hA
          refine va_callv (va_runV (As := [.int 12, .int 16, .int 17]) (rest := []) ⟨hx, hb, hml, hown, hts⟩ (r_X12_common l dC dI a k h0 vi vj (fT (fT (fT vF 0 g189) 2 f2w189) 3 f3w189) (fT vG 1 gs189) 12 16 17 m2189 f189_0 (m3 16) (m2189 17) (by rw [f189_1 _ (by omega) (by omega)]) rfl (by first | with_reducible assumption | decide | omega | rfl | assumption) (by first | with_reducible assumption | decide | omega | rfl | assumption) (by first | with_reducible assumption | decide | omega | rfl | assumption) (by first | with_reducible assumption | decide | omega | rfl | assumption) (by first | with_reducible assumption | decide | omega | rfl | assumption) (by first | with_reducible assumption | decide | omega | rfl | assumption) H.size) (cwV 3 hts gwsRX12_keep_8 rfl rfl rfl hd_yX12_common_RX12 (by decide +kernel)) (fz_pre (va_recv hK hP (ci := 12) (q0 := 0) rfl rfl) hP hK hD) rfl rfl hl.1 rfl (lv_room (Nat.le_of_ble_eq_true rfl)) dX12_keep_199 (by decide +kernel)) hS (fun q _ h => hFc q h) hFc (fun u t9_ H locs ht hvm hw9 hB9 hz1 hk1 hS => ?_)
          revert u hw9 hB9
          refine fz_p5 ?_
          intro g199 f2w199 f3w199 gs199 m2199 hw9 hB9
          try dsimp only at hw9 hB9
          have e9F : fT (fT (fT vF 0 g199) 2 f2w199) 3 f3w199 = fT (fT (fT (fT (fT (fT vF 0 g189) 2 f2w189) 3 f3w189) 0 g199) 2 f2w199) 3 f3w199 := ((congrArg (fun g9 => fT (fT g9 2 f2w199) 3 f3w199) ((fT_sw _ _ _ (Nat.ne_of_beq_eq_false rfl)).trans (congrArg (fun g9 => fT g9 3 f3w189) ((fT_sw _ _ _ (Nat.ne_of_beq_eq_false rfl)).trans (congrArg (fun g9 => fT g9 2 f2w189) (fT_sm _ _ _ _)))))).trans ((congrArg (fun g9 => fT g9 3 f3w199) ((fT_sw _ _ _ (Nat.ne_of_beq_eq_false rfl)).trans (congrArg (fun g9 => fT g9 3 f3w189) (fT_sm _ _ _ _)))).trans (fT_sm _ _ _ _))).symm
          have e9G : fT vG 1 gs199 = fT (fT vG 1 gs189) 1 gs199 := (fT_sm _ _ _ _).symm
          have hP := wr_PG e9G (wr_PF e9F (fz_P ht hB9.1))
          have hD := wr_DG e9G (wr_DF e9F (hB9.2.weaken (fun _ q _ h => hFc q.1 h)))
          clear e9F e9G
          revert hw9
          refine fz_a3 ?_
          intro f199_0 f199_1 f199_2
          refine lv_aload_n hx hb dX12_keep_202 rfl (lv_at hl 0 rfl) ?_
          refine lv_bipush (v := 16) hx hb dX12_keep_203 (by decide) ?_
          refine lv_bipush (v := 12) hx hb dX12_keep_205 (by decide) ?_
          have hFc := allFree hD hS hA
          refine va_callv (va_runV (As := [.int 16, .int 12]) (rest := []) ⟨hx, hb, hml, hown, hts⟩ (b_X12_copy l dC dI a k h0 vi vj (fT (fT (fT vF 0 g199) 2 f2w199) 3 f3w199) (fT vG 1 gs199) 16 12 m2199 f199_0 ((Int.gcd (m3 16) (m2189 17) : Nat) : Int) (by rw [f199_1]) (by first | with_reducible assumption | decide | omega | rfl | assumption) (by first | with_reducible assumption | decide | omega | rfl | assumption) (by first | with_reducible assumption | decide | omega | rfl | assumption) H.size) (cwV 2 hts gwsRX12_keep_4 rfl rfl rfl hd_yX12_copy_RX12 (by decide +kernel)) (fz_pre (va_recv hK hP (ci := 12) (q0 := 0) rfl rfl) hP hK hD) rfl rfl hl.1 rfl (lv_room (Nat.le_of_ble_eq_true rfl)) dX12_keep_207 (by decide +kernel)) hS (fun q _ h => hFc q h) hFc (fun g207 t9_ H locs ht hvm hw9 hB9 hz1 hk1 hS => ?_)
          have e9F : fT (fT (fT vF 0 g207) 2 f2w199) 3 f3w199 = fT (fT (fT (fT vF 0 g199) 2 f2w199) 3 f3w199) 0 g207 := ((fT_sw _ _ _ (Nat.ne_of_beq_eq_false rfl)).trans (congrArg (fun g9 => fT g9 3 f3w199) ((fT_sw _ _ _ (Nat.ne_of_beq_eq_false rfl)).trans (congrArg (fun g9 => fT g9 2 f2w199) (fT_sm _ _ _ _))))).symm
          have hP := wr_PF e9F (fz_P ht hB9.1)
          have hD := wr_DF e9F (hB9.2.weaken (fun _ q _ h => hFc q.1 h))
          clear e9F
          have f207_0 := hw9
          try dsimp only at f207_0
          refine lv_iinc (v := (nI (k6 + 1))) hx hb dX12_keep_210 hl (k := 6) rfl (nI_add k6 1) (by decide) rfl (fun ls (hl : lv_has ls _ ([(6, .int (nI (k6 + 1))), (0, .ref h0), (1, .int (nI rN)), (2, .int (nI wN)), (3, .int sI), (4, .int pI), (5, .int (nI (9 * ((3 * rN) + wN))))])) => ?_)
          refine lv_goto (tgt := 179) hx hb dX12_keep_213 (by decide) ?_
          have hl : lv_has _ _ ([(0, .ref h0), (1, .int (nI rN)), (2, .int (nI wN)), (3, .int sI), (4, .int pI), (5, .int (nI (9 * ((3 * rN) + wN)))), (6, .int (nI (k6 + 1)))]) := lv_sub hl [1, 2, 3, 4, 5, 6, 0] rfl
          exact ih179_1 (k6 + 1) g207 f2w199 f3w199 gs199 (fT m2199 16 ((Int.gcd (m3 16) (m2189 17) : Nat) : Int)) _ _ _ (f207_0) (by omega) (by (rw [fT_ne _ _ (by omega), f199_2 _ (by omega) (by omega), f189_1 _ (by omega) (by omega)]); exact h193) (fun q h1 h2 => by (rw [fT_ne _ _ (by omega), f199_2 _ (by omega) (by omega), f189_1 _ (by omega) (by omega)]); exact ho3 q h1 h2) (by omega) hP hD hS hl
    · have t_14 : ¬ ((k5 : Nat) : Int) ≥ 9 := toI_nge c_14 (nI_toInt (by omega)) (by decide)
      have r0 := hR0 k5 (by omega)
      have r1 := hR1 k5 (by omega)
      rw [Nat.mul_zero, Nat.zero_add] at r0
      rw [Nat.mul_one] at r1
      have b1 : ((vF 49 k5).toInt * (vF 50 (9 + k5)).toInt).natAbs ≤ 2000000 * 2000000 := mul_box (by omega) (by omega)
      have b2 : ((vF 49 (9 + k5)).toInt * (vF 50 k5).toInt).natAbs ≤ 2000000 * 2000000 := mul_box (by omega) (by omega)
      have b3 : ((vF 50 k5).toInt * (vF 50 (9 + k5)).toInt).natAbs ≤ 2000000 * 2000000 := mul_box (by omega) (by omega)
      have b4 : 0 < (vF 50 k5).toInt * (vF 50 (9 + k5)).toInt := Int.mul_pos (by omega) (by omega)
      have m1 := mulI (x := (vF 49 k5)) (y := (vF 50 (9 + k5)))
      have m2 := mulI (x := (vF 49 (9 + k5))) (y := (vF 50 k5))
      have m3 := mulI (x := (vF 50 k5)) (y := (vF 50 (9 + k5)))
      refine lv_aload_n hx hb dX12_keep_17 rfl (lv_at hl 0 rfl) ?_
      refine va_get (D := (dC, dI)) (ci := 12) (v := .ref (a 49)) (C := RX12) (T := TX12) (N := 163) (fs := fM (vS a vi vj)) hx hb hts iwsRX12_keep_in12 hown hK hP 0 rfl rfl 78 (by decide) (hts _ hm_r_X12_keep_1) (fun _ h9 => h9) rfl dX12_keep_18 ?_
      refine lv_iload hx hb dX12_keep_21 (lv_at hl 5 rfl) ?_
      refine va_iald (cA := k 49) (n := 900) (f := (vF 49)) hx hb hK hP 50 49 (WR_get 49 (by decide)) (TR_get 49 (by decide)) (vp_in_nI (show k5 < 900 by omega) (by omega)) dX12_keep_23 ?_
      refine lv_topi (fun y7 hy7 => ?_)
      obtain rfl : ((vF 49) k5) = y7 := (hy7.trans (by rw [nI_clamp (by omega)])).symm
      refine lv_i2l hx hb dX12_keep_24 rfl ?_
      refine lv_aload_n hx hb dX12_keep_25 rfl (lv_at hl 0 rfl) ?_
      refine va_get (D := (dC, dI)) (ci := 12) (v := .ref (a 50)) (C := RX12) (T := TX12) (N := 163) (fs := fM (vS a vi vj)) hx hb hts iwsRX12_keep_in12 hown hK hP 0 rfl rfl 79 (by decide) (hts _ hm_r_X12_keep_2) (fun _ h9 => h9) rfl dX12_keep_26 ?_
      refine lv_bipush (v := 9) hx hb dX12_keep_29 (by decide) ?_
      refine lv_iload hx hb dX12_keep_31 (lv_at hl 5 rfl) ?_
      refine lv_iadd hx hb dX12_keep_33 ?_
      refine lv_topi (fun y8 hy8 => ?_)
      obtain rfl : (nI (9 + k5)) = y8 := (hy8.trans (nI_add 9 k5)).symm
      refine va_iald (cA := k 50) (n := 900) (f := (vF 50)) hx hb hK hP 51 50 (WR_get 50 (by decide)) (TR_get 50 (by decide)) (vp_in_nI (show (9 + k5) < 900 by omega) (by omega)) dX12_keep_34 ?_
      refine lv_topi (fun y9 hy9 => ?_)
      obtain rfl : ((vF 50) (9 + k5)) = y9 := (hy9.trans (by rw [nI_clamp (by omega)])).symm
      refine lv_i2l hx hb dX12_keep_35 rfl ?_
      refine lv_lmul hx hb dX12_keep_36 ?_
      refine lv_aload_n hx hb dX12_keep_37 rfl (lv_at hl 0 rfl) ?_
      refine va_get (D := (dC, dI)) (ci := 12) (v := .ref (a 49)) (C := RX12) (T := TX12) (N := 163) (fs := fM (vS a vi vj)) hx hb hts iwsRX12_keep_in12 hown hK hP 0 rfl rfl 78 (by decide) (hts _ hm_r_X12_keep_1) (fun _ h9 => h9) rfl dX12_keep_38 ?_
      refine lv_bipush (v := 9) hx hb dX12_keep_41 (by decide) ?_
      refine lv_iload hx hb dX12_keep_43 (lv_at hl 5 rfl) ?_
      refine lv_iadd hx hb dX12_keep_45 ?_
      refine lv_topi (fun y10 hy10 => ?_)
      obtain rfl : (nI (9 + k5)) = y10 := (hy10.trans (nI_add 9 k5)).symm
      refine va_iald (cA := k 49) (n := 900) (f := (vF 49)) hx hb hK hP 50 49 (WR_get 49 (by decide)) (TR_get 49 (by decide)) (vp_in_nI (show (9 + k5) < 900 by omega) (by omega)) dX12_keep_46 ?_
      refine lv_topi (fun y11 hy11 => ?_)
      obtain rfl : ((vF 49) (9 + k5)) = y11 := (hy11.trans (by rw [nI_clamp (by omega)])).symm
      refine lv_i2l hx hb dX12_keep_47 rfl ?_
      refine lv_aload_n hx hb dX12_keep_48 rfl (lv_at hl 0 rfl) ?_
      refine va_get (D := (dC, dI)) (ci := 12) (v := .ref (a 50)) (C := RX12) (T := TX12) (N := 163) (fs := fM (vS a vi vj)) hx hb hts iwsRX12_keep_in12 hown hK hP 0 rfl rfl 79 (by decide) (hts _ hm_r_X12_keep_2) (fun _ h9 => h9) rfl dX12_keep_49 ?_
      refine lv_iload hx hb dX12_keep_52 (lv_at hl 5 rfl) ?_
      refine va_iald (cA := k 50) (n := 900) (f := (vF 50)) hx hb hK hP 51 50 (WR_get 50 (by decide)) (TR_get 50 (by decide)) (vp_in_nI (show k5 < 900 by omega) (by omega)) dX12_keep_54 ?_
      refine lv_topi (fun y12 hy12 => ?_)
      obtain rfl : ((vF 50) k5) = y12 := (hy12.trans (by rw [nI_clamp (by omega)])).symm
      refine lv_i2l hx hb dX12_keep_55 rfl ?_
      refine lv_lmul hx hb dX12_keep_56 ?_
      refine lv_lsub hx hb dX12_keep_57 ?_
      obtain ⟨nL, hnL⟩ : ∃ nL, nL = ((((((vF 49) k5)).toInt64 * (((vF 50) (9 + k5))).toInt64) - ((((vF 49) (9 + k5))).toInt64 * (((vF 50) k5)).toInt64)) : Int64) := ⟨_, rfl⟩
      have en : nL.toInt = (vF 49 k5).toInt * (vF 50 (9 + k5)).toInt - (vF 49 (9 + k5)).toInt * (vF 50 k5).toInt := by rw [hnL, sub64 (by omega) (by omega), m1, m2]
      refine lv_topl (fun y13 hy13 => ?_)
      obtain rfl : nL = y13 := (hy13.trans (hnL.symm)).symm
      refine lv_lstore hx hb dX12_keep_58 hl (by decide) rfl (fun ls (hl : lv_has ls _ ([(6, .long nL), (0, .ref h0), (1, .int (nI rN)), (2, .int (nI wN)), (3, .int sI), (4, .int pI), (5, .int (nI k5))])) => ?_)
      refine lv_aload_n hx hb dX12_keep_60 rfl (lv_at hl 1 rfl) ?_
      refine va_get (D := (dC, dI)) (ci := 12) (v := .ref (a 50)) (C := RX12) (T := TX12) (N := 163) (fs := fM (vS a vi vj)) hx hb hts iwsRX12_keep_in12 hown hK hP 0 rfl rfl 79 (by decide) (hts _ hm_r_X12_keep_2) (fun _ h9 => h9) rfl dX12_keep_61 ?_
      refine lv_iload hx hb dX12_keep_64 (lv_at hl 6 rfl) ?_
      refine va_iald (cA := k 50) (n := 900) (f := (vF 50)) hx hb hK hP 51 50 (WR_get 50 (by decide)) (TR_get 50 (by decide)) (vp_in_nI (show k5 < 900 by omega) (by omega)) dX12_keep_66 ?_
      refine lv_topi (fun y14 hy14 => ?_)
      obtain rfl : ((vF 50) k5) = y14 := (hy14.trans (by rw [nI_clamp (by omega)])).symm
      refine lv_i2l hx hb dX12_keep_67 rfl ?_
      refine lv_aload_n hx hb dX12_keep_68 rfl (lv_at hl 1 rfl) ?_
      refine va_get (D := (dC, dI)) (ci := 12) (v := .ref (a 50)) (C := RX12) (T := TX12) (N := 163) (fs := fM (vS a vi vj)) hx hb hts iwsRX12_keep_in12 hown hK hP 0 rfl rfl 79 (by decide) (hts _ hm_r_X12_keep_2) (fun _ h9 => h9) rfl dX12_keep_69 ?_
      refine lv_bipush (v := 9) hx hb dX12_keep_72 (by decide) ?_
      refine lv_iload hx hb dX12_keep_74 (lv_at hl 6 rfl) ?_
      refine lv_iadd hx hb dX12_keep_76 ?_
      refine lv_topi (fun y15 hy15 => ?_)
      obtain rfl : (nI (9 + k5)) = y15 := (hy15.trans (nI_add 9 k5)).symm
      refine va_iald (cA := k 50) (n := 900) (f := (vF 50)) hx hb hK hP 51 50 (WR_get 50 (by decide)) (TR_get 50 (by decide)) (vp_in_nI (show (9 + k5) < 900 by omega) (by omega)) dX12_keep_77 ?_
      refine lv_topi (fun y16 hy16 => ?_)
      obtain rfl : ((vF 50) (9 + k5)) = y16 := (hy16.trans (by rw [nI_clamp (by omega)])).symm
      refine lv_i2l hx hb dX12_keep_78 rfl ?_
      refine lv_lmul hx hb dX12_keep_79 ?_
      obtain ⟨dL, hdL⟩ : ∃ dL, dL = (((((vF 50) k5)).toInt64 * (((vF 50) (9 + k5))).toInt64) : Int64) := ⟨_, rfl⟩
      have ed : dL.toInt = (vF 50 k5).toInt * (vF 50 (9 + k5)).toInt := by rw [hdL, m3]
      refine lv_topl (fun y17 hy17 => ?_)
      obtain rfl : dL = y17 := (hy17.trans (hdL.symm)).symm
      refine lv_lstore hx hb dX12_keep_80 hl (by decide) rfl (fun ls (hl : lv_has ls _ ([(8, .long dL), (6, .long nL), (0, .ref h0), (1, .int (nI rN)), (2, .int (nI wN)), (3, .int sI), (4, .int pI), (5, .int (nI k5))])) => ?_)
      refine lv_lload hx hb dX12_keep_82 (lv_at hl 1 rfl) ?_
      refine lv_lload hx hb dX12_keep_84 (lv_at hl 0 rfl) ?_
      have hFc := noneFree hS hA
      refine va_calll (va_runS (As := [.long nL, .long dL]) (rest := []) ⟨hx, hb, hml, hown, hts⟩ (r_X12_common1 l dC dI nL dL (by omega) (by omega) H.size) (va_cwS 2 hts gwsRX12_keep_9 rfl rfl rfl (by decide +kernel) ⟨by decide +kernel, by decide +kernel⟩) ⟨fun a U g mk q => by obtain ⟨q0, q1, qP, qK, qD⟩ := q; exact ⟨q0, q1, qP, va_K.moved (u := U) (U := U.calling g mk a) (Vm.Alike.refl U.vm) qK, qD⟩, fun U hU9 hW => ⟨rfl, by rw [hU9], by rw [hU9]; exact nilP, va_K.moved hW.alike (hK.sub (tys' := []) [] rfl), nilD⟩⟩ rfl rfl hl.1 rfl (lv_room (Nat.le_of_ble_eq_true rfl)) dX12_keep_86 (by decide +kernel)) hS (fun q _ h => hFc q h) hFc (fun r86 u t9_ H1 locs ht hvm hw9 hB9 hz1 hk1 hS => ?_)
      have hP := keepAll hP hk1
      clear hB9
      generalize H1 = H at hP hS ⊢
      have hP : va_P (dC, dI) vwCl (WR a k h0 vi vj (fT (fT (fT vF 0 x16_F0) 2 x16_F2) 3 x16_F3) (fT vG 1 x16_G1)) H := hP
      have hD := fz_sd hP (hD) rfl
      have f86_0 := hw9
      try dsimp only at f86_0
      refine lv_lstore hx hb dX12_keep_89 hl (by decide) rfl (fun ls (hl : lv_has ls _ ([(10, .long r86), (8, .long dL), (6, .long nL), (0, .ref h0), (1, .int (nI rN)), (2, .int (nI wN)), (3, .int sI), (4, .int pI), (5, .int (nI k5))])) => ?_)
      have hgp := gcd_pos (x := nL.toInt) (y := dL.toInt) (by omega)
      have hgl := gcd_le (x := nL.toInt) (y := dL.toInt) (by omega)
      have eg := f86_0
      refine lv_aload_n hx hb dX12_keep_91 rfl (lv_at hl 3 rfl) ?_
      refine lv_bipush (v := 10) hx hb dX12_keep_92 (by decide) ?_
      refine lv_lload hx hb dX12_keep_94 (lv_at hl 2 rfl) ?_
      refine lv_lload hx hb dX12_keep_96 (lv_at hl 0 rfl) ?_
      refine lv_ldiv hx hb dX12_keep_98 (by exact ne64 (by omega)) ?_
      have e10 : (nL / r86).toInt = nL.toInt.tdiv r86.toInt := (div64i (by omega) (by omega)).1
      have s10 := sh_le nL.toInt r86.toInt
      have hFc := allFree hD hS hA
      refine va_callv (va_runV (As := [.int 10, .long (nL / r86)]) (rest := []) ⟨hx, hb, hml, hown, hts⟩ (b_X12_put l dC dI a k h0 vi vj (fT (fT (fT vF 0 x16_F0) 2 x16_F2) 3 x16_F3) (fT vG 1 x16_G1) 10 (nL / r86) (nL.toInt.tdiv r86.toInt) mK hBK (by first | with_reducible assumption | decide | omega | rfl | assumption) (e10) (by omega) H.size) (cwV 2 hts gwsRX12_keep_0 rfl rfl rfl hd_yX12_put_RX12 (by decide +kernel)) (fz_pre (va_recv hK hP (ci := 12) (q0 := 0) rfl rfl) hP hK hD) rfl rfl hl.1 rfl (lv_room (Nat.le_of_ble_eq_true rfl)) dX12_keep_99 (by decide +kernel)) hS (fun q _ h => hFc q h) hFc (fun g99 t9_ H locs ht hvm hw9 hB9 hz1 hk1 hS => ?_)
      have e9F : fT (fT (fT vF 0 g99) 2 x16_F2) 3 x16_F3 = fT (fT (fT (fT vF 0 x16_F0) 2 x16_F2) 3 x16_F3) 0 g99 := ((fT_sw _ _ _ (Nat.ne_of_beq_eq_false rfl)).trans (congrArg (fun g9 => fT g9 3 x16_F3) ((fT_sw _ _ _ (Nat.ne_of_beq_eq_false rfl)).trans (congrArg (fun g9 => fT g9 2 x16_F2) (fT_sm _ _ _ _))))).symm
      have hP := wr_PF e9F (fz_P ht hB9.1)
      have hD := wr_DF e9F (hB9.2.weaken (fun _ q _ h => hFc q.1 h))
      clear e9F
      have f99_0 := hw9
      try dsimp only at f99_0
      refine lv_aload_n hx hb dX12_keep_102 rfl (lv_at hl 3 rfl) ?_
      refine lv_bipush (v := 11) hx hb dX12_keep_103 (by decide) ?_
      refine lv_lload hx hb dX12_keep_105 (lv_at hl 1 rfl) ?_
      refine lv_lload hx hb dX12_keep_107 (lv_at hl 0 rfl) ?_
      refine lv_ldiv hx hb dX12_keep_109 (by exact ne64 (by omega)) ?_
      have e11 : (dL / r86).toInt = dL.toInt.tdiv r86.toInt := (div64i (by omega) (by omega)).1
      have s11 := sh_le dL.toInt r86.toInt
      have p11 : 0 < dL.toInt.tdiv r86.toInt := tdiv_pos (by omega) (by omega) (by omega)
      obtain ⟨x11, hx11⟩ : ∃ x11, x11 = dL.toInt.tdiv r86.toInt := ⟨_, rfl⟩
      have hx11p : 0 < x11 := by rw [hx11]; exact p11
      have hx11b : x11.natAbs ≤ 4000000000000 := by rw [hx11]; omega
      have hg1 := gcd_pos (x := x19) (y := x11) hx11p
      have hg2 := gcd_le (x := x19) (y := x11) hx11p
      have hp42 := p42_le k5 (by omega)
      have hFc := allFree hD hS hA
      refine va_callv (va_runV (As := [.int 11, .long (dL / r86)]) (rest := []) ⟨hx, hb, hml, hown, hts⟩ (b_X12_put l dC dI a k h0 vi vj (fT (fT (fT vF 0 g99) 2 x16_F2) 3 x16_F3) (fT vG 1 x16_G1) 11 (dL / r86) x11 (fT mK 10 (nL.toInt.tdiv r86.toInt)) f99_0 (by first | with_reducible assumption | decide | omega | rfl | assumption) (e11.trans hx11.symm) (by omega) H.size) (cwV 2 hts gwsRX12_keep_0 rfl rfl rfl hd_yX12_put_RX12 (by decide +kernel)) (fz_pre (va_recv hK hP (ci := 12) (q0 := 0) rfl rfl) hP hK hD) rfl rfl hl.1 rfl (lv_room (Nat.le_of_ble_eq_true rfl)) dX12_keep_110 (by decide +kernel)) hS (fun q _ h => hFc q h) hFc (fun g110 t9_ H locs ht hvm hw9 hB9 hz1 hk1 hS => ?_)
      have e9F : fT (fT (fT vF 0 g110) 2 x16_F2) 3 x16_F3 = fT (fT (fT (fT vF 0 g99) 2 x16_F2) 3 x16_F3) 0 g110 := ((fT_sw _ _ _ (Nat.ne_of_beq_eq_false rfl)).trans (congrArg (fun g9 => fT g9 3 x16_F3) ((fT_sw _ _ _ (Nat.ne_of_beq_eq_false rfl)).trans (congrArg (fun g9 => fT g9 2 x16_F2) (fT_sm _ _ _ _))))).symm
      have hP := wr_PF e9F (fz_P ht hB9.1)
      have hD := wr_DF e9F (hB9.2.weaken (fun _ q _ h => hFc q.1 h))
      clear e9F
      have f110_0 := hw9
      try dsimp only at f110_0
      refine lv_aload_n hx hb dX12_keep_113 rfl (lv_at hl 3 rfl) ?_
      refine lv_bipush (v := 12) hx hb dX12_keep_114 (by decide) ?_
      refine lv_bipush (v := 19) hx hb dX12_keep_116 (by decide) ?_
      refine lv_bipush (v := 11) hx hb dX12_keep_118 (by decide) ?_
      have hFc := allFree hD hS hA
      refine va_callv (va_runV (As := [.int 12, .int 19, .int 11]) (rest := []) ⟨hx, hb, hml, hown, hts⟩ (r_X12_common l dC dI a k h0 vi vj (fT (fT (fT vF 0 g110) 2 x16_F2) 3 x16_F3) (fT vG 1 x16_G1) 12 19 11 (fT (fT mK 10 (nL.toInt.tdiv r86.toInt)) 11 x11) f110_0 x19 x11 (by rw [fT_ne _ _ (by omega), fT_ne _ _ (by omega), v_x19]) (by rw [fT_eq]) (by first | with_reducible assumption | decide | omega | rfl | assumption) (by first | with_reducible assumption | decide | omega | rfl | assumption) (by first | with_reducible assumption | decide | omega | rfl | assumption) (by first | with_reducible assumption | decide | omega | rfl | assumption) (by first | with_reducible assumption | decide | omega | rfl | assumption) (by first | with_reducible assumption | decide | omega | rfl | assumption) H.size) (cwV 3 hts gwsRX12_keep_8 rfl rfl rfl hd_yX12_common_RX12 (by decide +kernel)) (fz_pre (va_recv hK hP (ci := 12) (q0 := 0) rfl rfl) hP hK hD) rfl rfl hl.1 rfl (lv_room (Nat.le_of_ble_eq_true rfl)) dX12_keep_120 (by decide +kernel)) hS (fun q _ h => hFc q h) hFc (fun u t9_ H locs ht hvm hw9 hB9 hz1 hk1 hS => ?_)
      revert u hw9 hB9
      refine fz_p5 ?_
      intro g120 f2w120 f3w120 gs120 m2120 hw9 hB9
      try dsimp only at hw9 hB9
      have e9F : fT (fT (fT vF 0 g120) 2 f2w120) 3 f3w120 = fT (fT (fT (fT (fT (fT vF 0 g110) 2 x16_F2) 3 x16_F3) 0 g120) 2 f2w120) 3 f3w120 := ((congrArg (fun g9 => fT (fT g9 2 f2w120) 3 f3w120) ((fT_sw _ _ _ (Nat.ne_of_beq_eq_false rfl)).trans (congrArg (fun g9 => fT g9 3 x16_F3) ((fT_sw _ _ _ (Nat.ne_of_beq_eq_false rfl)).trans (congrArg (fun g9 => fT g9 2 x16_F2) (fT_sm _ _ _ _)))))).trans ((congrArg (fun g9 => fT g9 3 f3w120) ((fT_sw _ _ _ (Nat.ne_of_beq_eq_false rfl)).trans (congrArg (fun g9 => fT g9 3 x16_F3) (fT_sm _ _ _ _)))).trans (fT_sm _ _ _ _))).symm
      have e9G : fT vG 1 gs120 = fT (fT vG 1 x16_G1) 1 gs120 := (fT_sm _ _ _ _).symm
      have hP := wr_PG e9G (wr_PF e9F (fz_P ht hB9.1))
      have hD := wr_DG e9G (wr_DF e9F (hB9.2.weaken (fun _ q _ h => hFc q.1 h)))
      clear e9F e9G
      revert hw9
      refine fz_a3 ?_
      intro f120_0 f120_1 f120_2
      refine lv_aload_n hx hb dX12_keep_123 rfl (lv_at hl 3 rfl) ?_
      refine lv_bipush (v := 13) hx hb dX12_keep_124 (by decide) ?_
      refine lv_bipush (v := 14) hx hb dX12_keep_126 (by decide) ?_
      refine lv_bipush (v := 11) hx hb dX12_keep_128 (by decide) ?_
      refine lv_bipush (v := 12) hx hb dX12_keep_130 (by decide) ?_
      have hFc := allFree hD hS hA
      refine va_callv (va_runV (As := [.int 13, .int 14, .int 11, .int 12]) (rest := []) ⟨hx, hb, hml, hown, hts⟩ (b_X12_divide l dC dI a k h0 vi vj (fT (fT (fT vF 0 g120) 2 f2w120) 3 f3w120) (fT vG 1 gs120) 13 14 11 12 m2120 f120_0 x11 ((Int.gcd x19 x11 : Nat) : Int) (by rw [f120_2 _ (by omega) (by omega), fT_eq]) (by rw [f120_1]) (by first | with_reducible assumption | decide | omega | rfl | assumption) (by first | with_reducible assumption | decide | omega | rfl | assumption) (by first | with_reducible assumption | decide | omega | rfl | assumption) (by first | with_reducible assumption | decide | omega | rfl | assumption) (by first | with_reducible assumption | decide | omega | rfl | assumption) (by first | with_reducible assumption | decide | omega | rfl | assumption) (by omega) H.size) (cwV 4 hts gwsRX12_keep_3 rfl rfl rfl hd_yX12_divide_RX12 (by decide +kernel)) (fz_pre (va_recv hK hP (ci := 12) (q0 := 0) rfl rfl) hP hK hD) rfl rfl hl.1 rfl (lv_room (Nat.le_of_ble_eq_true rfl)) dX12_keep_132 (by decide +kernel)) hS (fun q _ h => hFc q h) hFc (fun u t9_ H locs ht hvm hw9 hB9 hz1 hk1 hS => ?_)
      revert u hw9 hB9
      refine fz_p4 ?_
      intro g132 f2w132 f3w132 gs132 hw9 hB9
      try dsimp only at hw9 hB9
      have e9F : fT (fT (fT vF 0 g132) 2 f2w132) 3 f3w132 = fT (fT (fT (fT (fT (fT vF 0 g120) 2 f2w120) 3 f3w120) 2 f2w132) 3 f3w132) 0 g132 := ((congrArg (fun g9 => fT (fT g9 3 f3w132) 0 g132) ((fT_sw _ _ _ (Nat.ne_of_beq_eq_false rfl)).trans (congrArg (fun g9 => fT g9 3 f3w120) (fT_sm _ _ _ _)))).trans ((congrArg (fun g9 => fT g9 0 g132) (fT_sm _ _ _ _)).trans ((fT_sw _ _ _ (Nat.ne_of_beq_eq_false rfl)).trans (congrArg (fun g9 => fT g9 3 f3w132) ((fT_sw _ _ _ (Nat.ne_of_beq_eq_false rfl)).trans (congrArg (fun g9 => fT g9 2 f2w132) (fT_sm _ _ _ _))))))).symm
      have e9G : fT vG 1 gs132 = fT (fT vG 1 gs120) 1 gs132 := (fT_sm _ _ _ _).symm
      have hP := wr_PG e9G (wr_PF e9F (fz_P ht hB9.1))
      have hD := wr_DG e9G (wr_DF e9F (hB9.2.weaken (fun _ q _ h => hFc q.1 h)))
      clear e9F e9G
      have f132_0 := hw9
      try dsimp only at f132_0
      refine lv_aload_n hx hb dX12_keep_135 rfl (lv_at hl 3 rfl) ?_
      refine lv_bipush (v := 15) hx hb dX12_keep_136 (by decide) ?_
      refine lv_bipush (v := 19) hx hb dX12_keep_138 (by decide) ?_
      refine lv_bipush (v := 13) hx hb dX12_keep_140 (by decide) ?_
      have hFc := allFree hD hS hA
      refine va_callv (va_runV (As := [.int 15, .int 19, .int 13]) (rest := []) ⟨hx, hb, hml, hown, hts⟩ (b_X12_times l dC dI a k h0 vi vj (fT (fT (fT vF 0 g132) 2 f2w132) 3 f3w132) (fT vG 1 gs132) 15 19 13 (fT (fT m2120 13 ((x11).tdiv ((Int.gcd x19 x11 : Nat) : Int))) 14 ((x11).tmod ((Int.gcd x19 x11 : Nat) : Int))) f132_0 x19 ((x11).tdiv ((Int.gcd x19 x11 : Nat) : Int)) (by rw [fT_ne _ _ (by omega), fT_ne _ _ (by omega), f120_2 _ (by omega) (by omega), fT_ne _ _ (by omega), fT_ne _ _ (by omega), v_x19]) (by rw [fT_ne _ _ (by omega), fT_eq]) (by first | with_reducible assumption | decide | omega | rfl | assumption) (by first | with_reducible assumption | decide | omega | rfl | assumption) (by first | with_reducible assumption | decide | omega | rfl | assumption) (mulpN (a := 379) (b := 42) (c := 588) (Nat.lt_of_le_of_lt hx19b hp42) (Nat.lt_of_le_of_lt (Nat.le_trans (sh_le _ _) hx11b) (by decide)) (by decide)) H.size) (cwV 3 hts gwsRX12_keep_10 rfl rfl rfl hd_yX12_times_RX12 (by decide +kernel)) (fz_pre (va_recv hK hP (ci := 12) (q0 := 0) rfl rfl) hP hK hD) rfl rfl hl.1 rfl (lv_room (Nat.le_of_ble_eq_true rfl)) dX12_keep_142 (by decide +kernel)) hS (fun q _ h => hFc q h) hFc (fun u t9_ H locs ht hvm hw9 hB9 hz1 hk1 hS => ?_)
      revert u hw9 hB9
      refine fz_p2 ?_
      intro g142 gs142 hw9 hB9
      try dsimp only at hw9 hB9
      have e9F : fT (fT (fT vF 0 g142) 2 f2w132) 3 f3w132 = fT (fT (fT (fT vF 0 g132) 2 f2w132) 3 f3w132) 0 g142 := ((fT_sw _ _ _ (Nat.ne_of_beq_eq_false rfl)).trans (congrArg (fun g9 => fT g9 3 f3w132) ((fT_sw _ _ _ (Nat.ne_of_beq_eq_false rfl)).trans (congrArg (fun g9 => fT g9 2 f2w132) (fT_sm _ _ _ _))))).symm
      have e9G : fT vG 1 gs142 = fT (fT vG 1 gs132) 1 gs142 := (fT_sm _ _ _ _).symm
      have hP := wr_PG e9G (wr_PF e9F (fz_P ht hB9.1))
      have hD := wr_DG e9G (wr_DF e9F (hB9.2.weaken (fun _ q _ h => hFc q.1 h)))
      clear e9F e9G
      have f142_0 := hw9
      try dsimp only at f142_0
      refine lv_aload_n hx hb dX12_keep_145 rfl (lv_at hl 3 rfl) ?_
      refine lv_bipush (v := 19) hx hb dX12_keep_146 (by decide) ?_
      refine lv_bipush (v := 15) hx hb dX12_keep_148 (by decide) ?_
      have hFc := allFree hD hS hA
      refine va_callv (va_runV (As := [.int 19, .int 15]) (rest := []) ⟨hx, hb, hml, hown, hts⟩ (b_X12_copy l dC dI a k h0 vi vj (fT (fT (fT vF 0 g142) 2 f2w132) 3 f3w132) (fT vG 1 gs142) 19 15 (fT (fT (fT m2120 13 ((x11).tdiv ((Int.gcd x19 x11 : Nat) : Int))) 14 ((x11).tmod ((Int.gcd x19 x11 : Nat) : Int))) 15 (x19 * ((x11).tdiv ((Int.gcd x19 x11 : Nat) : Int)))) f142_0 (x19 * ((x11).tdiv ((Int.gcd x19 x11 : Nat) : Int))) (by rw [fT_eq]) (by first | with_reducible assumption | decide | omega | rfl | assumption) (by first | with_reducible assumption | decide | omega | rfl | assumption) (by first | with_reducible assumption | decide | omega | rfl | assumption) H.size) (cwV 2 hts gwsRX12_keep_4 rfl rfl rfl hd_yX12_copy_RX12 (by decide +kernel)) (fz_pre (va_recv hK hP (ci := 12) (q0 := 0) rfl rfl) hP hK hD) rfl rfl hl.1 rfl (lv_room (Nat.le_of_ble_eq_true rfl)) dX12_keep_150 (by decide +kernel)) hS (fun q _ h => hFc q h) hFc (fun g150 t9_ H locs ht hvm hw9 hB9 hz1 hk1 hS => ?_)
      have e9F : fT (fT (fT vF 0 g150) 2 f2w132) 3 f3w132 = fT (fT (fT (fT vF 0 g142) 2 f2w132) 3 f3w132) 0 g150 := ((fT_sw _ _ _ (Nat.ne_of_beq_eq_false rfl)).trans (congrArg (fun g9 => fT g9 3 f3w132) ((fT_sw _ _ _ (Nat.ne_of_beq_eq_false rfl)).trans (congrArg (fun g9 => fT g9 2 f2w132) (fT_sm _ _ _ _))))).symm
      have hP := wr_PF e9F (fz_P ht hB9.1)
      have hD := wr_DF e9F (hB9.2.weaken (fun _ q _ h => hFc q.1 h))
      clear e9F
      have f150_0 := hw9
      try dsimp only at f150_0
      refine lv_iinc (v := (nI (k5 + 1))) hx hb dX12_keep_153 hl (k := 8) rfl (nI_add k5 1) (by decide) rfl (fun ls (hl : lv_has ls _ ([(5, .int (nI (k5 + 1))), (10, .long r86), (8, .long dL), (6, .long nL), (0, .ref h0), (1, .int (nI rN)), (2, .int (nI wN)), (3, .int sI), (4, .int pI)])) => ?_)
      refine lv_goto (tgt := 10) hx hb dX12_keep_156 (by decide) ?_
      have hl : lv_has _ _ ([(0, .ref h0), (1, .int (nI rN)), (2, .int (nI wN)), (3, .int sI), (4, .int pI), (5, .int (nI (k5 + 1)))]) := lv_sub hl [4, 5, 6, 7, 8, 0] rfl
      exact ih10 (k5 + 1) g150 f2w132 f3w132 gs142 (fT (fT (fT (fT m2120 13 ((x11).tdiv ((Int.gcd x19 x11 : Nat) : Int))) 14 ((x11).tmod ((Int.gcd x19 x11 : Nat) : Int))) 15 (x19 * ((x11).tdiv ((Int.gcd x19 x11 : Nat) : Int)))) 19 (x19 * ((x11).tdiv ((Int.gcd x19 x11 : Nat) : Int)))) (x19 * ((x11).tdiv ((Int.gcd x19 x11 : Nat) : Int))) _ _ _ (f150_0) ((by rw [fT_eq])) (by omega) (Int.mul_pos hx19p (tdiv_pos hx11p hg1 hg2)) (by rw [Int.natAbs_mul]; exact p42_step hx19b (Nat.le_trans (sh_le _ _) hx11b)) (fun q h1 h2 => by (rw [fT_ne _ _ (by omega), fT_ne _ _ (by omega), fT_ne _ _ (by omega), fT_ne _ _ (by omega), f120_2 _ (by omega) (by omega), fT_ne _ _ (by omega), fT_ne _ _ (by omega)]); exact ho1 q h1 h2) (by omega) hP hD hS hl
end
section
/-- a part of a node: finished, of less height, and what it lays on the pile fits (d: what lies there already) -/
def KidL (F : Nat → Nat → Int32) (V : Nat → Prop) (dp pd : Nat → Nat) (n x d c : Nat) : Prop := (F x n = nI c ∧ c < 4000) ∧ V c ∧ dp c < dp n ∧ pd c + d ≤ pd n ∧ (F 29 c).toInt ≤ 9
def KidT (F : Nat → Nat → Int32) (V : Nat → Prop) (dp pd : Nat → Nat) (n x d c : Nat) : Prop := (F x n = nI c ∧ c < 4000) ∧ V c ∧ dp c < dp n ∧ pd c + d ≤ pd n ∧ ¬ (F 29 c).toInt ≤ 9
theorem kidE {a : Int32} {c d : Nat} (h1 : a = nI c ∧ c < 4000) (h2 : a = nI d ∧ d < 4000) : c = d := by
  have h := congrArg Int32.toInt (h1.1.symm.trans h2.1)
  rw [nI_toInt (by omega), nI_toInt (by omega)] at h
  omega
/-- the members of the node's binding, kept in a row that the program has not -/
def mbO (F : Nat → Nat → Int32) (n : Nat) : Nat := (F 150 n).toInt.toNat
/-- a sum: its body c, and W, the work of one member -/
def SumW (F : Nat → Nat → Int32) (V : Nat → Prop) (wt dp pd : Nat → Nat) (n c W : Nat) : Prop := KidL F V dp pd n 32 1 c ∧ wt c + 5 ≤ W ∧ (F 31 n = -1 ∨ ∃ d, KidT F V dp pd n 31 1 d ∧ wt c + wt d + 8 ≤ W)
/-- the first place's number, while the second is worked out: below the members of the first set (of a param) -/
def LaB (F : Nat → Nat → Int32) (n k la : Nat) : Prop := la < 12 ∧ (k = 2 → ∀ a o : Nat, F 30 n = nI a → a < 44 → F 19 a = nI o → o < 44 → la < (F 17 o).toInt.toNat)
theorem nI_44 {a b : Nat} (e : nI a = nI b) (ha : a < 44) (hb : b < 44) : a = b := by
  have h := congrArg Int32.toInt e
  rw [nI_toInt (by omega), nI_toInt (by omega)] at h
  omega
theorem LaB.mk {F : Nat → Nat → Int32} {n k la a o m : Nat} (h12 : la < 12) (ha : F 30 n = nI a) (ha4 : a < 44) (ho : k = 2 → F 19 a = nI o) (ho4 : o < 44) (hm : F 17 o = nI m) (hm12 : m ≤ 12) (hla : la < m) : LaB F n k la := ⟨h12, fun hk a9 o9 e1 h1 e2 h2 => by
  obtain rfl := nI_44 (e1.symm.trans ha) h1 ha4
  obtain rfl := nI_44 (e2.symm.trans (ho hk)) h2 ho4
  rw [hm, nI_tn (by omega)]; exact hla⟩
theorem LaB.use {F : Nat → Nat → Int32} {n k la a o m : Nat} (h : LaB F n k la) (hk : k = 2) (ha : F 30 n = nI a) (ha4 : a < 44) (ho : k = 2 → F 19 a = nI o) (ho4 : o < 44) (hm : F 17 o = nI m) (hm12 : m ≤ 12) : la < m := by
  have h9 := h.2 hk a o ha ha4 (ho hk) ho4
  rw [hm, nI_tn (by omega)] at h9
  exact h9
/-- a node that waits for one of its parts: k its kind, s its stage, h the pile when it was begun, hn the pile when the part was begun, r the work that is left, lin: the part lays a row on the pile -/
def WtO (F : Nat → Nat → Int32) (V : Nat → Prop) (wt dp pd : Nat → Nat) (n k s la h hn r : Nat) (lin : Prop) : Prop :=
  (k = 4 ∧ s = 1 ∧ hn = h ∧ lin ∧ 1 ≤ r) ∨
  (5 ≤ k ∧ k ≤ 8 ∧ s = 1 ∧ hn = h ∧ lin ∧ ∃ d, KidL F V dp pd n 31 1 d ∧ wt d + 2 ≤ r) ∨
  (5 ≤ k ∧ k ≤ 8 ∧ s = 2 ∧ hn = h + 1 ∧ lin ∧ 1 ≤ r) ∨
  ((k = 2 ∨ k = 3) ∧ s = 1 ∧ hn = h ∧ lin ∧ 1 ≤ r ∧ (∃ d, KidL F V dp pd n 31 0 d) ∧ ∀ c, KidL F V dp pd n 32 0 c → wt c + 2 ≤ r) ∨
  ((k = 2 ∨ k = 3) ∧ s = 2 ∧ hn = h ∧ lin ∧ 1 ≤ r ∧ LaB F n k la ∧ ∃ c, KidL F V dp pd n 32 0 c) ∨
  (k = 9 ∧ s = 2 ∧ hn = h + 1 ∧ ¬ lin ∧ la < mbO F n ∧ ∃ c W, SumW F V wt dp pd n c W ∧ (mbO F n - (la + 1)) * W + wt c + 5 ≤ r) ∨
  (k = 9 ∧ s = 3 ∧ hn = h + 1 ∧ lin ∧ la < mbO F n ∧ ∃ c W, SumW F V wt dp pd n c W ∧ (mbO F n - (la + 1)) * W + 3 ≤ r) ∨
  ((k = 10 ∨ k = 11) ∧ s = 1 ∧ hn = h ∧ ¬ lin ∧ ∃ d, KidT F V dp pd n 31 0 d ∧ wt d + 2 ≤ r) ∨
  ((k = 10 ∨ k = 11) ∧ s = 2 ∧ hn = h ∧ ¬ lin ∧ 1 ≤ r) ∨
  (k = 12 ∧ s = 1 ∧ hn = h ∧ ¬ lin ∧ 1 ≤ r) ∨
  (k = 13 ∧ s = 1 ∧ hn = h ∧ lin ∧ ∃ d, KidL F V dp pd n 31 1 d ∧ wt d + 2 ≤ r) ∨
  (k = 13 ∧ s = 2 ∧ hn = h + 1 ∧ lin ∧ 1 ≤ r)
/-- the uppermost node: begun just now, or its part has come back (p: the pile) -/
def TopO (F : Nat → Nat → Int32) (V : Nat → Prop) (wt dp pd : Nat → Nat) (n k s la h p r : Nat) : Prop :=
  (s = 0 ∧ p = h ∧ wt n ≤ r) ∨ (k = 9 ∧ s = 1 ∧ p = h + 1 ∧ la ≤ mbO F n ∧ ∃ c W, SumW F V wt dp pd n c W ∧ (mbO F n - la) * W + 1 ≤ r) ∨
  (∃ hn, WtO F V wt dp pd n k s la h hn r True ∧ p = hn + 1) ∨ WtO F V wt dp pd n k s la h p r False
/-- one turn of the uppermost node: it ends, or begins a part, or stays (f52 f53 f54: the rows of the frames before it, g52 g53 g54 behind it) -/
def StpO (F : Nat → Nat → Int32) (V : Nat → Prop) (wt dp pd : Nat → Nat) (n k f h r : Nat) (f52 f53 f54 g52 g53 g54 : Nat → Int32) (fr2 p2 : Nat) : Prop :=
  (∀ q, q < f → g52 q = f52 q ∧ g53 q = f53 q ∧ g54 q = f54 q) ∧
  ((fr2 = f ∧ p2 = h + (if k ≤ 9 then 1 else 0)) ∨
   (fr2 = f + 2 ∧ g52 f = f52 f ∧ ∃ c s' la' r' : Nat, g52 (f + 1) = nI c ∧ g53 (f + 1) = 0 ∧ g53 f = nI s' ∧ (k = 2 ∨ k = 3 ∨ k = 9 → g54 f = nI la') ∧ V c ∧ dp c < dp n ∧ p2 + pd c ≤ h + pd n ∧ WtO F V wt dp pd n k s' la' h p2 r' ((F 29 c).toInt ≤ 9) ∧ r' + wt c < r) ∨
   (fr2 = f + 1 ∧ g52 f = f52 f ∧ ∃ s' la' r' : Nat, g53 f = nI s' ∧ (k = 2 ∨ k = 3 ∨ k = 9 → g54 f = nI la') ∧ TopO F V wt dp pd n k s' la' h p2 r' ∧ r' < r))
theorem StpO.push {F : Nat → Nat → Int32} {V : Nat → Prop} {wt dp pd : Nat → Nat} {n k f fr h r p2 c : Nat} {f52 f53 f54 g54 : Nat → Int32} (s' la' r' : Nat) (hf : f < 4299) (hfr : fr = f + 1) (h54 : ∀ q, q < f → g54 q = f54 q) (hla : k = 2 ∨ k = 3 ∨ k = 9 → g54 f = nI la') (hV : V c) (hd : dp c < dp n) (hp : p2 + pd c ≤ h + pd n) (hw : WtO F V wt dp pd n k s' la' h p2 r' ((F 29 c).toInt ≤ 9)) (hr : r' + wt c < r) :
    StpO F V wt dp pd n k f h r f52 f53 f54 (upd f52 (nI fr).toNatClampNeg (nI c)) (upd (upd f53 (nI f).toNatClampNeg (nI s')) (nI fr).toNatClampNeg 0) g54 (fr + 1) p2 := by
  subst hfr
  exact ⟨fun q hq => ⟨by rw [upd_at (by omega), if_neg (by omega)], by rw [upd_at (by omega), if_neg (by omega), upd_at (by omega), if_neg (by omega)], h54 q hq⟩,
   Or.inr (Or.inl ⟨rfl, by rw [upd_at (by omega), if_neg (by omega)], c, s', la', r', by rw [upd_at (by omega), if_pos rfl], by rw [upd_at (by omega), if_pos rfl], by rw [upd_at (by omega), if_neg (by omega), upd_at (by omega), if_pos rfl], hla, hV, hd, hp, hw, hr⟩)⟩
theorem StpO.pop {F : Nat → Nat → Int32} {V : Nat → Prop} {wt dp pd : Nat → Nat} {n k f fr h r p2 : Nat} {v : Int32} {f52 f53 f54 g54 : Nat → Int32} (hf : f < 4299) (hfr : fr = f + 1) (h54 : ∀ q, q < f → g54 q = f54 q) (hp : p2 = h + (if k ≤ 9 then 1 else 0)) :
    StpO F V wt dp pd n k f h r f52 f53 f54 f52 (upd f53 (nI f).toNatClampNeg v) g54 (fr - 1) p2 := by
  subst hfr
  exact ⟨fun q hq => ⟨rfl, by rw [upd_at (by omega), if_neg (by omega)], h54 q hq⟩, Or.inl ⟨rfl, hp⟩⟩
/-- a waiting and, or -/
theorem WtO.j1 {F : Nat → Nat → Int32} {V : Nat → Prop} {wt dp pd : Nat → Nat} {n k la h r d : Nat} {lin : Prop} (hk : k = 10 ∨ k = 11) (hl : ¬ lin) (hd : KidT F V dp pd n 31 0 d) (hr : wt d + 2 ≤ r) : WtO F V wt dp pd n k 1 la h h r lin :=
  Or.inr (Or.inr (Or.inr (Or.inr (Or.inr (Or.inr (Or.inr (Or.inl ⟨hk, rfl, rfl, hl, d, hd, hr⟩)))))))
theorem WtO.j2 {F : Nat → Nat → Int32} {V : Nat → Prop} {wt dp pd : Nat → Nat} {n k la h r : Nat} {lin : Prop} (hk : k = 10 ∨ k = 11) (hl : ¬ lin) (hr : 1 ≤ r) : WtO F V wt dp pd n k 2 la h h r lin :=
  Or.inr (Or.inr (Or.inr (Or.inr (Or.inr (Or.inr (Or.inr (Or.inr (Or.inl ⟨hk, rfl, rfl, hl, hr⟩))))))))
/-- a waiting pair or compare -/
theorem WtO.p1 {F : Nat → Nat → Int32} {V : Nat → Prop} {wt dp pd : Nat → Nat} {n k la h r d : Nat} {lin : Prop} (hk : (5 ≤ k ∧ k ≤ 8) ∨ k = 13) (hl : lin) (hd : KidL F V dp pd n 31 1 d) (hr : wt d + 2 ≤ r) : WtO F V wt dp pd n k 1 la h h r lin := by
  rcases hk with hk | hk
  · exact Or.inr (Or.inl ⟨hk.1, hk.2, rfl, rfl, hl, d, hd, hr⟩)
  · exact Or.inr (Or.inr (Or.inr (Or.inr (Or.inr (Or.inr (Or.inr (Or.inr (Or.inr (Or.inr (Or.inl ⟨hk, rfl, rfl, hl, d, hd, hr⟩))))))))))
theorem WtO.p2 {F : Nat → Nat → Int32} {V : Nat → Prop} {wt dp pd : Nat → Nat} {n k la h r : Nat} {lin : Prop} (hk : (5 ≤ k ∧ k ≤ 8) ∨ k = 13) (hl : lin) (hr : 1 ≤ r) : WtO F V wt dp pd n k 2 la h (h + 1) r lin := by
  rcases hk with hk | hk
  · exact Or.inr (Or.inr (Or.inl ⟨hk.1, hk.2, rfl, rfl, hl, hr⟩))
  · exact Or.inr (Or.inr (Or.inr (Or.inr (Or.inr (Or.inr (Or.inr (Or.inr (Or.inr (Or.inr (Or.inr ⟨hk, rfl, rfl, hl, hr⟩))))))))))
/-- and, or: what is known of them by their stages -/
theorem TopO.join {F : Nat → Nat → Int32} {V : Nat → Prop} {wt dp pd : Nat → Nat} {n k s la h p r d : Nat} (t : TopO F V wt dp pd n k s la h p r) (hk : k = 10 ∨ k = 11) (hd : KidT F V dp pd n 31 0 d) : p = h ∧ ((s = 0 ∧ wt n ≤ r) ∨ (s = 1 ∧ wt d + 2 ≤ r) ∨ (s = 2 ∧ 1 ≤ r)) := by
  rcases t with ⟨h1, h2, h3⟩ | ⟨h1, _⟩ | ⟨hn, h1, h2⟩ | h1
  · exact ⟨h2, Or.inl ⟨h1, h3⟩⟩
  · omega
  · exfalso
    rcases h1 with h1 | h1 | h1 | h1 | h1 | h1 | h1 | h1 | h1 | h1 | h1 | h1
    · omega
    · omega
    · omega
    · omega
    · omega
    · omega
    · omega
    · exact h1.2.2.2.1 trivial
    · exact h1.2.2.2.1 trivial
    · omega
    · omega
    · omega
  · rcases h1 with h1 | h1 | h1 | h1 | h1 | h1 | h1 | h1 | h1 | h1 | h1 | h1
    · omega
    · omega
    · omega
    · omega
    · omega
    · omega
    · omega
    · obtain ⟨d9, h8, h9⟩ := h1.2.2.2.2
      obtain rfl : d9 = d := kidE h8.1 hd.1
      exact ⟨h1.2.2.1, Or.inr (Or.inl ⟨h1.2.1, h9⟩)⟩
    · exact ⟨h1.2.2.1, Or.inr (Or.inr ⟨h1.2.1, h1.2.2.2.2⟩)⟩
    · omega
    · omega
    · omega
/-- pairs and compares -/
theorem TopO.pair {F : Nat → Nat → Int32} {V : Nat → Prop} {wt dp pd : Nat → Nat} {n k s la h p r d : Nat} (t : TopO F V wt dp pd n k s la h p r) (hk : (5 ≤ k ∧ k ≤ 8) ∨ k = 13) (hd : KidL F V dp pd n 31 1 d) : (s = 0 ∧ p = h ∧ wt n ≤ r) ∨ (s = 1 ∧ p = h + 1 ∧ wt d + 2 ≤ r) ∨ (s = 2 ∧ p = h + 2 ∧ 1 ≤ r) := by
  rcases t with ⟨h1, h2, h3⟩ | ⟨h1, _⟩ | ⟨hn, h1, h2⟩ | h1
  · exact Or.inl ⟨h1, h2, h3⟩
  · omega
  · rcases h1 with h1 | h1 | h1 | h1 | h1 | h1 | h1 | h1 | h1 | h1 | h1 | h1
    · omega
    · obtain ⟨d9, h8, h9⟩ := h1.2.2.2.2.2
      obtain rfl : d9 = d := kidE h8.1 hd.1
      exact Or.inr (Or.inl ⟨h1.2.2.1, by (have h7 := h1.2.2.2.1); omega, h9⟩)
    · exact Or.inr (Or.inr ⟨h1.2.2.1, by omega, h1.2.2.2.2.2⟩)
    · omega
    · omega
    · omega
    · omega
    · omega
    · omega
    · omega
    · obtain ⟨d9, h8, h9⟩ := h1.2.2.2.2
      obtain rfl : d9 = d := kidE h8.1 hd.1
      exact Or.inr (Or.inl ⟨h1.2.1, by (have h7 := h1.2.2.1); omega, h9⟩)
    · exact Or.inr (Or.inr ⟨h1.2.1, by omega, h1.2.2.2.2⟩)
  · exfalso
    rcases h1 with h1 | h1 | h1 | h1 | h1 | h1 | h1 | h1 | h1 | h1 | h1 | h1
    · omega
    · exact h1.2.2.2.2.1
    · exact h1.2.2.2.2.1
    · omega
    · omega
    · omega
    · omega
    · omega
    · omega
    · omega
    · exact h1.2.2.2.1
    · exact h1.2.2.2.1
end
section
theorem hd_yX12_call_RX12 : yX12_call.cls = RX12 ∧ yX12_call.cls ≠ "java/lang/invoke/MethodHandle" ∧ yX12_call.cls ≠ "java/lang/invoke/VarHandle" ∧ (parseMethodDescriptor yX12_call.desc).map (fun d => d.parameters.length) = some 1 := by decide +kernel
theorem dX12_workJoined_0 : decode cX12_workJoined 0 = .ok (.aload_n 0, 1) := dk_42 (by decide +kernel)
theorem dX12_workJoined_1 : decode cX12_workJoined 1 = .ok (.getfield 182, 3) := dk_180 (by decide +kernel)
theorem dX12_workJoined_4 : decode cX12_workJoined 4 = .ok (.iload_n 1, 1) := dk_27 (by decide +kernel)
theorem dX12_workJoined_5 : decode cX12_workJoined 5 = .ok (.dup2, 1) := dk_92 (by decide +kernel)
theorem dX12_workJoined_6 : decode cX12_workJoined 6 = .ok (.iaload, 1) := dk_46 (by decide +kernel)
theorem dX12_workJoined_7 : decode cX12_workJoined 7 = .ok (.iconst 1, 1) := dk_4 (by decide +kernel)
theorem dX12_workJoined_8 : decode cX12_workJoined 8 = .ok (.iadd, 1) := dk_96 (by decide +kernel)
theorem dX12_workJoined_9 : decode cX12_workJoined 9 = .ok (.iastore, 1) := dk_79 (by decide +kernel)
theorem dX12_workJoined_10 : decode cX12_workJoined 10 = .ok (.aload_n 0, 1) := dk_42 (by decide +kernel)
theorem dX12_workJoined_11 : decode cX12_workJoined 11 = .ok (.getfield 182, 3) := dk_180 (by decide +kernel)
theorem dX12_workJoined_14 : decode cX12_workJoined 14 = .ok (.iload_n 1, 1) := dk_27 (by decide +kernel)
theorem dX12_workJoined_15 : decode cX12_workJoined 15 = .ok (.iaload, 1) := dk_46 (by decide +kernel)
theorem dX12_workJoined_16 : decode cX12_workJoined 16 = .ok (.iconst 2, 1) := dk_5 (by decide +kernel)
theorem dX12_workJoined_17 : decode cX12_workJoined 17 = .ok (.if_icmp .ne 30, 3) := dk_160 (by decide +kernel)
theorem dX12_workJoined_20 : decode cX12_workJoined 20 = .ok (.aload_n 0, 1) := dk_42 (by decide +kernel)
theorem dX12_workJoined_21 : decode cX12_workJoined 21 = .ok (.getfield 674, 3) := dk_180 (by decide +kernel)
theorem dX12_workJoined_24 : decode cX12_workJoined 24 = .ok (.aload_n 0, 1) := dk_42 (by decide +kernel)
theorem dX12_workJoined_25 : decode cX12_workJoined 25 = .ok (.getfield 110, 3) := dk_180 (by decide +kernel)
theorem dX12_workJoined_28 : decode cX12_workJoined 28 = .ok (.iload_n 2, 1) := dk_28 (by decide +kernel)
theorem dX12_workJoined_29 : decode cX12_workJoined 29 = .ok (.iaload, 1) := dk_46 (by decide +kernel)
theorem dX12_workJoined_30 : decode cX12_workJoined 30 = .ok (.bipush 10, 2) := dk_16 (by decide +kernel)
theorem dX12_workJoined_32 : decode cX12_workJoined 32 = .ok (.if_icmp .ne 7, 3) := dk_160 (by decide +kernel)
theorem dX12_workJoined_35 : decode cX12_workJoined 35 = .ok (.iconst 1, 1) := dk_4 (by decide +kernel)
theorem dX12_workJoined_36 : decode cX12_workJoined 36 = .ok (.goto 4, 3) := dk_167 (by decide +kernel)
theorem dX12_workJoined_39 : decode cX12_workJoined 39 = .ok (.iconst 0, 1) := dk_3 (by decide +kernel)
theorem dX12_workJoined_40 : decode cX12_workJoined 40 = .ok (.if_icmp .ne 7, 3) := dk_160 (by decide +kernel)
theorem dX12_workJoined_43 : decode cX12_workJoined 43 = .ok (.iconst 1, 1) := dk_4 (by decide +kernel)
theorem dX12_workJoined_44 : decode cX12_workJoined 44 = .ok (.goto 4, 3) := dk_167 (by decide +kernel)
theorem dX12_workJoined_47 : decode cX12_workJoined 47 = .ok (.iconst 0, 1) := dk_3 (by decide +kernel)
theorem dX12_workJoined_48 : decode cX12_workJoined 48 = .ok (.istore_n 3, 1) := dk_62 (by decide +kernel)
theorem dX12_workJoined_49 : decode cX12_workJoined 49 = .ok (.aload_n 0, 1) := dk_42 (by decide +kernel)
theorem dX12_workJoined_50 : decode cX12_workJoined 50 = .ok (.getfield 182, 3) := dk_180 (by decide +kernel)
theorem dX12_workJoined_53 : decode cX12_workJoined 53 = .ok (.iload_n 1, 1) := dk_27 (by decide +kernel)
theorem dX12_workJoined_54 : decode cX12_workJoined 54 = .ok (.iaload, 1) := dk_46 (by decide +kernel)
theorem dX12_workJoined_55 : decode cX12_workJoined 55 = .ok (.iconst 1, 1) := dk_4 (by decide +kernel)
theorem dX12_workJoined_56 : decode cX12_workJoined 56 = .ok (.if_icmp .ne 16, 3) := dk_160 (by decide +kernel)
theorem dX12_workJoined_59 : decode cX12_workJoined 59 = .ok (.aload_n 0, 1) := dk_42 (by decide +kernel)
theorem dX12_workJoined_60 : decode cX12_workJoined 60 = .ok (.aload_n 0, 1) := dk_42 (by decide +kernel)
theorem dX12_workJoined_61 : decode cX12_workJoined 61 = .ok (.getfield 113, 3) := dk_180 (by decide +kernel)
theorem dX12_workJoined_64 : decode cX12_workJoined 64 = .ok (.iload_n 2, 1) := dk_28 (by decide +kernel)
theorem dX12_workJoined_65 : decode cX12_workJoined 65 = .ok (.iaload, 1) := dk_46 (by decide +kernel)
theorem dX12_workJoined_66 : decode cX12_workJoined 66 = .ok (.invokevirtual 650, 3) := dk_182 (by decide +kernel)
theorem dX12_workJoined_69 : decode cX12_workJoined 69 = .ok (.goto 40, 3) := dk_167 (by decide +kernel)
theorem dX12_workJoined_72 : decode cX12_workJoined 72 = .ok (.aload_n 0, 1) := dk_42 (by decide +kernel)
theorem dX12_workJoined_73 : decode cX12_workJoined 73 = .ok (.getfield 182, 3) := dk_180 (by decide +kernel)
theorem dX12_workJoined_76 : decode cX12_workJoined 76 = .ok (.iload_n 1, 1) := dk_27 (by decide +kernel)
theorem dX12_workJoined_77 : decode cX12_workJoined 77 = .ok (.iaload, 1) := dk_46 (by decide +kernel)
theorem dX12_workJoined_78 : decode cX12_workJoined 78 = .ok (.iconst 2, 1) := dk_5 (by decide +kernel)
theorem dX12_workJoined_79 : decode cX12_workJoined 79 = .ok (.if_icmp .ne 20, 3) := dk_160 (by decide +kernel)
theorem dX12_workJoined_82 : decode cX12_workJoined 82 = .ok (.iload_n 3, 1) := dk_29 (by decide +kernel)
theorem dX12_workJoined_83 : decode cX12_workJoined 83 = .ok (.ifCond .ne 16, 3) := dk_154 (by decide +kernel)
theorem dX12_workJoined_86 : decode cX12_workJoined 86 = .ok (.aload_n 0, 1) := dk_42 (by decide +kernel)
theorem dX12_workJoined_87 : decode cX12_workJoined 87 = .ok (.aload_n 0, 1) := dk_42 (by decide +kernel)
theorem dX12_workJoined_88 : decode cX12_workJoined 88 = .ok (.getfield 116, 3) := dk_180 (by decide +kernel)
theorem dX12_workJoined_91 : decode cX12_workJoined 91 = .ok (.iload_n 2, 1) := dk_28 (by decide +kernel)
theorem dX12_workJoined_92 : decode cX12_workJoined 92 = .ok (.iaload, 1) := dk_46 (by decide +kernel)
theorem dX12_workJoined_93 : decode cX12_workJoined 93 = .ok (.invokevirtual 650, 3) := dk_182 (by decide +kernel)
theorem dX12_workJoined_96 : decode cX12_workJoined 96 = .ok (.goto 13, 3) := dk_167 (by decide +kernel)
theorem dX12_workJoined_99 : decode cX12_workJoined 99 = .ok (.aload_n 0, 1) := dk_42 (by decide +kernel)
theorem dX12_workJoined_100 : decode cX12_workJoined 100 = .ok (.dup, 1) := dk_89 (by decide +kernel)
theorem dX12_workJoined_101 : decode cX12_workJoined 101 = .ok (.getfield 647, 3) := dk_180 (by decide +kernel)
theorem dX12_workJoined_104 : decode cX12_workJoined 104 = .ok (.iconst 1, 1) := dk_4 (by decide +kernel)
theorem dX12_workJoined_105 : decode cX12_workJoined 105 = .ok (.isub, 1) := dk_100 (by decide +kernel)
theorem dX12_workJoined_106 : decode cX12_workJoined 106 = .ok (.putfield 647, 3) := dk_181 (by decide +kernel)
theorem dX12_workJoined_109 : decode cX12_workJoined 109 = .ok (.return_, 1) := dk_177 (by decide +kernel)
def wsRX12_workJoined : List Cond := .code yX12_workJoined cX12_workJoined 4 none :: ([.fieldLink RX12 182 "OptimaWorksModel" "stage" "[I", .fieldLink RX12 674 "OptimaWorksModel" "truth" "Z", .fieldLink RX12 110 "OptimaWorksModel" "kind" "[I", .fieldLink RX12 647 "OptimaWorksModel" "framed" "I", .fieldLink RX12 116 "OptimaWorksModel" "partB" "[I", .fieldLink RX12 113 "OptimaWorksModel" "partA" "[I"] ++ wsX120 ++ (wsV RX12 650 RX12 yX12_call wsRX12_call))
theorem iwsRX12_workJoined_in12 : ∀ w ∈ wsX120, w ∈ wsRX12_workJoined := fun _ h => List.mem_cons_of_mem _ (List.mem_append_left _ (List.mem_append_right _ h))
theorem gwsRX12_workJoined_0 : GoodIn wsRX12_workJoined (wsV RX12 650 RX12 yX12_call wsRX12_call) := goodIn_sub (fun _ h => List.mem_cons_of_mem _ (List.mem_append_right _ h)) (gdV (by decide +kernel) gdwsRX12_call)
theorem gdwsRX12_workJoined : wsRX12_workJoined.all goodWord = true := gdC rfl (gdA (gdA (by decide +kernel : ([.fieldLink RX12 182 "OptimaWorksModel" "stage" "[I", .fieldLink RX12 674 "OptimaWorksModel" "truth" "Z", .fieldLink RX12 110 "OptimaWorksModel" "kind" "[I", .fieldLink RX12 647 "OptimaWorksModel" "framed" "I", .fieldLink RX12 116 "OptimaWorksModel" "partB" "[I", .fieldLink RX12 113 "OptimaWorksModel" "partA" "[I"] : List Cond).all goodWord = true) gdwsX120) (gdV (by decide +kernel) gdwsRX12_call))
theorem hm_r_X12_workJoined_0 : (.fieldLink RX12 182 "OptimaWorksModel" "stage" "[I" : Cond) ∈ wsRX12_workJoined := by decide +kernel
theorem hm_r_X12_workJoined_1 : (.fieldLink RX12 647 "OptimaWorksModel" "framed" "I" : Cond) ∈ wsRX12_workJoined := by decide +kernel
set_option maxHeartbeats 4000000 in
set_option maxRecDepth 100000 in
/-- workJoined(f, n) -/
theorem r_X12_workJoined (l : Launch) (dC : Nat → ClassId) (dI : Nat → Nat → Nat) (a : Nat → Nat) (k : Nat → ClassId) (h0 : Nat) (vi : Nat → Int32) (vj : Nat → Int64) (vF : Nat → Nat → Int32) (vG : Nat → Nat → Int64) (nF : Nat → Nat → Int32) (V : Nat → Prop) (wt : Nat → Nat) (dp : Nat → Nat) (pd : Nat → Nat) (nN : Nat) (kN : Nat) (sN : Nat) (la : Nat) (hN : Nat) (pN : Nat) (rN : Nat) (fN : Nat) (fr : Nat) (cN : Nat) (dN : Nat) (hnN : nN < 4000) (hfN : fN < 4299) (hkN : vF 29 nN = nI kN) (hsN : vF 53 fN = nI sN) (hfr9 : vi 89 = nI fr) (hfr1 : fr = fN + 1) (hTo : TopO nF V wt dp pd nN kN sN la hN pN rN) (hcN : vF 30 nN = nI cN) (hdN : vF 31 nN = nI dN) (hcT : KidT nF V dp pd nN 30 0 cN) (hdT : KidT nF V dp pd nN 31 0 dN) (hwN : wt cN + wt dN + 3 ≤ wt nN) (hkk : kN = 10 ∨ kN = 11) (sz : Nat) : Met l yX12_workJoined wsRX12_workJoined ({ frames := 1, cells := 0, slots := 0, locals := 21 }) (va_Pc [.ref h0, .int (nI fN), .int (nI nN)] (fun U => U.heap.size = sz ∧ va_P (dC, dI) vwCl (WR a k h0 vi vj vF vG) U.heap ∧ va_K (dC, dI) vwCl (tX12 k) U ∧ va_D (fun _ => True) (WR a k h0 vi vj vF vG))) (va_Qv (fun (u : (Nat → Int32) × (Nat → Int32) × (Nat)) => (StpO nF V wt dp pd nN kN fN hN rN (vF 52) (vF 53) (vF 54) (u.1) (u.2.1) (vF 54) (u.2.2) pN)) (fun (u : (Nat → Int32) × (Nat → Int32) × (Nat)) t => va_P (dC, dI) vwCl (WR a k h0 (fT vi 89 (nI (u.2.2))) vj (fT (fT vF 53 (u.2.1)) 52 (u.1)) vG) t.heap ∧ va_D (va_A (WR a k h0 vi vj vF vG) sz) (WR a k h0 (fT vi 89 (nI (u.2.2))) vj (fT (fT vF 53 (u.2.1)) 52 (u.1)) vG)) (va_A (WR a k h0 vi vj vF vG) sz)) 0 0 (va_A (WR a k h0 vi vj vF vG) sz) := by
  refine Met.ofW (cc := cX12_workJoined) (maxL := 4) (ret := none) (by decide) rfl ?_
  intro p e s m args below meth c s₁ B hml hv
  obtain ⟨rfl, hsz, hP, hK, hD0⟩ := hv
  have hx := B.exec
  have hb := B.bytes
  have hr := B.returns
  have hts := atoms_spec (ws := wsRX12_workJoined) B.pre
  have hown : s.vm.findClass RX12 = some m.cls := findClass_of_methodNamed B.named
  have hlocks := B.notSynchronized
  subst hsz
  have hD := hD0.self (sz := s.heap.size)
  generalize hAe : va_A (WR a k h0 vi vj vF vG) s.heap.size = A at hD ⊢
  have hA : ∀ q : Nat, s.heap.size ≤ q → A q := fun q h => by rw [← hAe]; exact Or.inr h
  have hS : va_S A s.heap s.heap [] := va_S.rf
  have hl := lv_entry ([.ref h0, .int (nI fN), .int (nI nN)]) (n := 4) (Nat.le_of_ble_eq_true rfl)
  rw [lg_entry_eq]
  generalize (lg_sl ([.ref h0, .int (nI fN), .int (nI nN)]) ++ List.replicate (4 - (lg_sl ([.ref h0, .int (nI fN), .int (nI nN)])).length) Slot.unset).toArray = ls at hl ⊢
  have hl : lv_has ls 4 [(0, .ref h0), (1, .int (nI fN)), (2, .int (nI nN))] := hl
  obtain ⟨hpN, hsd⟩ := hTo.join hkk hdT
  have hq1 := hcT.2.2.2.1
  have hq2 := hdT.2.2.2.1
  refine lv_aload_n hx hb dX12_workJoined_0 rfl (lv_at hl 0 rfl) ?_
  refine va_get (D := (dC, dI)) (ci := 12) (v := .ref (a 53)) (C := RX12) (T := TX12) (N := 163) (fs := fM (vS a vi vj)) hx hb hts iwsRX12_workJoined_in12 hown hK hP 0 rfl rfl 86 (by decide) (hts _ hm_r_X12_workJoined_0) (fun _ h9 => h9) rfl dX12_workJoined_1 ?_
  refine lv_iload_n hx hb dX12_workJoined_4 rfl (lv_at hl 1 rfl) ?_
  refine lv_dup2_11 hx hb dX12_workJoined_5 rfl rfl ?_
  refine va_iald (cA := k 53) (n := 4300) (f := (vF 53)) hx hb hK hP 54 53 (WR_get 53 (by decide)) (TR_get 53 (by decide)) (vp_in_nI (show fN < 4300 by omega) (by omega)) dX12_workJoined_6 ?_
  refine lv_topi (fun y1 hy1 => ?_)
  obtain rfl : ((vF 53) fN) = y1 := (hy1.trans (by rw [nI_clamp (by omega)])).symm
  refine lv_topi (fun y2 hy2 => ?_)
  obtain rfl : (nI sN) = y2 := (hy2.trans (hsN)).symm
  refine lv_iconst (v := 1) hx hb dX12_workJoined_7 (by decide) ?_
  refine lv_iadd hx hb dX12_workJoined_8 ?_
  refine lv_topi (fun y3 hy3 => ?_)
  obtain rfl : (nI (sN + 1)) = y3 := (hy3.trans (nI_add sN 1)).symm
  refine va_iast (cA := k 53) (n := 4300) (f := (vF 53)) hx hb hK hP hD hS 54 53 (WR_get 53 (by decide)) (TR_get 53 (by decide)) (vp_in_nI (show fN < 4300 by omega) (by omega)) dX12_workJoined_9 (fun H locs hP hD hS => ?_)
  have hP : va_P (dC, dI) vwCl (WR a k h0 vi vj (fT vF 53 (upd (vF 53) ((nI fN)).toNatClampNeg (nI (sN + 1)))) vG) H := fz_w (WR_F 53 (by decide) _ rfl) hP
  have hD : va_D A (WR a k h0 vi vj (fT vF 53 (upd (vF 53) ((nI fN)).toNatClampNeg (nI (sN + 1)))) vG) := fz_wD (WR_F 53 (by decide) _ rfl) hD
  refine lv_aload_n hx hb dX12_workJoined_10 rfl (lv_at hl 0 rfl) ?_
  refine va_get (D := (dC, dI)) (ci := 12) (v := .ref (a 53)) (C := RX12) (T := TX12) (N := 163) (fs := fM (vS a vi vj)) hx hb hts iwsRX12_workJoined_in12 hown hK hP 0 rfl rfl 86 (by decide) (hts _ hm_r_X12_workJoined_0) (fun _ h9 => h9) rfl dX12_workJoined_11 ?_
  refine lv_iload_n hx hb dX12_workJoined_14 rfl (lv_at hl 1 rfl) ?_
  refine va_iald (cA := k 53) (n := 4300) (f := (upd (vF 53) ((nI fN)).toNatClampNeg (nI (sN + 1)))) hx hb hK hP 54 53 (WR_get 53 (by decide)) (TR_get 53 (by decide)) (vp_in_nI (show fN < 4300 by omega) (by omega)) dX12_workJoined_15 ?_
  refine lv_topi (fun y4 hy4 => ?_)
  obtain rfl : ((upd (vF 53) ((nI fN)).toNatClampNeg (nI (sN + 1))) fN) = y4 := (hy4.trans (by rw [nI_clamp (by omega)])).symm
  refine lv_topi (fun y5 hy5 => ?_)
  obtain rfl : (nI (sN + 1)) = y5 := (hy5.trans ((by rw [upd_at (by omega), if_pos rfl]))).symm
  refine lv_iconst (v := 2) hx hb dX12_workJoined_16 (by decide) ?_
  refine W.cut (pc := 48) (fun H locs ls stk => ∃ (sk : Int32),  stk = [.int sk] ∧ va_P (dC, dI) vwCl (WR a k h0 vi vj (fT vF 53 (upd (vF 53) ((nI fN)).toNatClampNeg (nI (sN + 1)))) vG) H ∧ va_D A (WR a k h0 vi vj (fT vF 53 (upd (vF 53) ((nI fN)).toNatClampNeg (nI (sN + 1)))) vG) ∧ va_S A s.heap H locs ∧ lv_has ls 4 [(0, .ref h0), (1, .int (nI fN)), (2, .int (nI nN))]) (fun join1 => ?_) ?_
  · refine lv_icmp_ne (tgt := 47) hx hb dX12_workJoined_17 (by decide) (fun c_17 => ?_) (fun c_17 => ?_)
    · have t_17 : (((sN + 1) : Nat) : Int) ≠ 2 := toI_ne c_17 (nI_toInt (by omega)) (by decide)
      refine lv_iconst (v := 0) hx hb dX12_workJoined_47 (by decide) ?_
      have hl : lv_has _ _ ([(0, .ref h0), (1, .int (nI fN)), (2, .int (nI nN))]) := lv_sub hl [0, 1, 2] rfl
      exact join1 _ _ _ _ ⟨0, rfl, hP, hD, hS, hl⟩
    · have t_17 : (((sN + 1) : Nat) : Int) = 2 := toI_nne c_17 (nI_toInt (by omega)) (by decide)
      refine lv_aload_n hx hb dX12_workJoined_20 rfl (lv_at hl 0 rfl) ?_
      refine va_get (D := (dC, dI)) (ci := 12) (v := .int (vi 84)) (C := RX12) (T := TX12) (N := 163) (fs := fM (vS a vi vj)) hx hb hts iwsRX12_workJoined_in12 hown hK hP 0 rfl rfl 84 (by decide) (hts (.fieldLink RX12 674 "OptimaWorksModel" "truth" "Z") (by decide +kernel)) (fun _ h9 => h9) rfl dX12_workJoined_21 ?_
      refine lv_aload_n hx hb dX12_workJoined_24 rfl (lv_at hl 0 rfl) ?_
      refine va_get (D := (dC, dI)) (ci := 12) (v := .ref (a 29)) (C := RX12) (T := TX12) (N := 163) (fs := fM (vS a vi vj)) hx hb hts iwsRX12_workJoined_in12 hown hK hP 0 rfl rfl 53 (by decide) (hts (.fieldLink RX12 110 "OptimaWorksModel" "kind" "[I") (by decide +kernel)) (fun _ h9 => h9) rfl dX12_workJoined_25 ?_
      refine lv_iload_n hx hb dX12_workJoined_28 rfl (lv_at hl 2 rfl) ?_
      refine va_iald (cA := k 29) (n := 4200) (f := (vF 29)) hx hb hK hP 30 29 (WR_get 29 (by decide)) (TR_get 29 (by decide)) (vp_in_nI (show nN < 4200 by omega) (by omega)) dX12_workJoined_29 ?_
      refine lv_topi (fun y6 hy6 => ?_)
      obtain rfl : ((vF 29) nN) = y6 := (hy6.trans (by rw [nI_clamp (by omega)])).symm
      refine lv_bipush (v := 10) hx hb dX12_workJoined_30 (by decide) ?_
      refine lv_icmp_ne (tgt := 39) hx hb dX12_workJoined_32 (by decide) (fun c_32 => ?_) (fun c_32 => ?_)
      · have t_32 : (((vF 29) nN)).toInt ≠ 10 := toI_ne c_32 rfl (by decide)
        refine lv_iconst (v := 0) hx hb dX12_workJoined_39 (by decide) ?_
        refine lv_icmp_ne (tgt := 47) hx hb dX12_workJoined_40 (by decide) (fun c_40 => ?_) (fun c_40 => ?_)
        · have t_40 : ((vi 84)).toInt ≠ 0 := toI_ne c_40 rfl (by decide)
          refine lv_iconst (v := 0) hx hb dX12_workJoined_47 (by decide) ?_
          have hl : lv_has _ _ ([(0, .ref h0), (1, .int (nI fN)), (2, .int (nI nN))]) := lv_sub hl [0, 1, 2] rfl
          exact join1 _ _ _ _ ⟨0, rfl, hP, hD, hS, hl⟩
        · have t_40 : ((vi 84)).toInt = 0 := toI_nne c_40 rfl (by decide)
          refine lv_iconst (v := 1) hx hb dX12_workJoined_43 (by decide) ?_
          refine lv_goto (tgt := 48) hx hb dX12_workJoined_44 (by decide) ?_
          have hl : lv_has _ _ ([(0, .ref h0), (1, .int (nI fN)), (2, .int (nI nN))]) := lv_sub hl [0, 1, 2] rfl
          exact join1 _ _ _ _ ⟨1, rfl, hP, hD, hS, hl⟩
      · have t_32 : (((vF 29) nN)).toInt = 10 := toI_nne c_32 rfl (by decide)
        refine lv_iconst (v := 1) hx hb dX12_workJoined_35 (by decide) ?_
        refine lv_goto (tgt := 40) hx hb dX12_workJoined_36 (by decide) ?_
        refine lv_icmp_ne (tgt := 47) hx hb dX12_workJoined_40 (by decide) (fun c_40 => ?_) (fun c_40 => ?_)
        · have t_40 : ((vi 84)).toInt ≠ 1 := toI_ne c_40 rfl (by decide)
          refine lv_iconst (v := 0) hx hb dX12_workJoined_47 (by decide) ?_
          have hl : lv_has _ _ ([(0, .ref h0), (1, .int (nI fN)), (2, .int (nI nN))]) := lv_sub hl [0, 1, 2] rfl
          exact join1 _ _ _ _ ⟨0, rfl, hP, hD, hS, hl⟩
        · have t_40 : ((vi 84)).toInt = 1 := toI_nne c_40 rfl (by decide)
          refine lv_iconst (v := 1) hx hb dX12_workJoined_43 (by decide) ?_
          refine lv_goto (tgt := 48) hx hb dX12_workJoined_44 (by decide) ?_
          have hl : lv_has _ _ ([(0, .ref h0), (1, .int (nI fN)), (2, .int (nI nN))]) := lv_sub hl [0, 1, 2] rfl
          exact join1 _ _ _ _ ⟨1, rfl, hP, hD, hS, hl⟩
  · rintro H locs ls stk ⟨sk, rfl, hP, hD, hS, hl⟩
    refine lv_istore_n hx hb dX12_workJoined_48 rfl hl (by decide) rfl (fun ls (hl : lv_has ls _ ([(3, .int sk), (0, .ref h0), (1, .int (nI fN)), (2, .int (nI nN))])) => ?_)
    refine lv_aload_n hx hb dX12_workJoined_49 rfl (lv_at hl 1 rfl) ?_
    refine va_get (D := (dC, dI)) (ci := 12) (v := .ref (a 53)) (C := RX12) (T := TX12) (N := 163) (fs := fM (vS a vi vj)) hx hb hts iwsRX12_workJoined_in12 hown hK hP 0 rfl rfl 86 (by decide) (hts _ hm_r_X12_workJoined_0) (fun _ h9 => h9) rfl dX12_workJoined_50 ?_
    refine lv_iload_n hx hb dX12_workJoined_53 rfl (lv_at hl 2 rfl) ?_
    refine va_iald (cA := k 53) (n := 4300) (f := (upd (vF 53) ((nI fN)).toNatClampNeg (nI (sN + 1)))) hx hb hK hP 54 53 (WR_get 53 (by decide)) (TR_get 53 (by decide)) (vp_in_nI (show fN < 4300 by omega) (by omega)) dX12_workJoined_54 ?_
    refine lv_topi (fun y7 hy7 => ?_)
    obtain rfl : ((upd (vF 53) ((nI fN)).toNatClampNeg (nI (sN + 1))) fN) = y7 := (hy7.trans (by rw [nI_clamp (by omega)])).symm
    refine lv_topi (fun y8 hy8 => ?_)
    obtain rfl : (nI (sN + 1)) = y8 := (hy8.trans ((by rw [upd_at (by omega), if_pos rfl]))).symm
    refine lv_iconst (v := 1) hx hb dX12_workJoined_55 (by decide) ?_
    refine lv_icmp_ne (tgt := 72) hx hb dX12_workJoined_56 (by decide) (fun c_56 => ?_) (fun c_56 => ?_)
    · have t_56 : (((sN + 1) : Nat) : Int) ≠ 1 := toI_ne c_56 (nI_toInt (by omega)) (by decide)
      refine lv_aload_n hx hb dX12_workJoined_72 rfl (lv_at hl 1 rfl) ?_
      refine va_get (D := (dC, dI)) (ci := 12) (v := .ref (a 53)) (C := RX12) (T := TX12) (N := 163) (fs := fM (vS a vi vj)) hx hb hts iwsRX12_workJoined_in12 hown hK hP 0 rfl rfl 86 (by decide) (hts _ hm_r_X12_workJoined_0) (fun _ h9 => h9) rfl dX12_workJoined_73 ?_
      refine lv_iload_n hx hb dX12_workJoined_76 rfl (lv_at hl 2 rfl) ?_
      refine va_iald (cA := k 53) (n := 4300) (f := (upd (vF 53) ((nI fN)).toNatClampNeg (nI (sN + 1)))) hx hb hK hP 54 53 (WR_get 53 (by decide)) (TR_get 53 (by decide)) (vp_in_nI (show fN < 4300 by omega) (by omega)) dX12_workJoined_77 ?_
      refine lv_topi (fun y9 hy9 => ?_)
      obtain rfl : ((upd (vF 53) ((nI fN)).toNatClampNeg (nI (sN + 1))) fN) = y9 := (hy9.trans (by rw [nI_clamp (by omega)])).symm
      refine lv_topi (fun y10 hy10 => ?_)
      obtain rfl : (nI (sN + 1)) = y10 := (hy10.trans ((by rw [upd_at (by omega), if_pos rfl]))).symm
      refine lv_iconst (v := 2) hx hb dX12_workJoined_78 (by decide) ?_
      refine lv_icmp_ne (tgt := 99) hx hb dX12_workJoined_79 (by decide) (fun c_79 => ?_) (fun c_79 => ?_)
      · have t_79 : (((sN + 1) : Nat) : Int) ≠ 2 := toI_ne c_79 (nI_toInt (by omega)) (by decide)
        refine lv_aload_n hx hb dX12_workJoined_99 rfl (lv_at hl 1 rfl) ?_
        refine lv_dup hx hb dX12_workJoined_100 rfl ?_
        refine va_get (D := (dC, dI)) (ci := 12) (v := .int (vi 89)) (C := RX12) (T := TX12) (N := 163) (fs := fM (vS a vi vj)) hx hb hts iwsRX12_workJoined_in12 hown hK hP 0 rfl rfl 89 (by decide) (hts _ hm_r_X12_workJoined_1) (fun _ h9 => h9) rfl dX12_workJoined_101 ?_
        refine lv_topi (fun y11 hy11 => ?_)
        obtain rfl : (nI fr) = y11 := (hy11.trans (hfr9)).symm
        refine lv_iconst (v := 1) hx hb dX12_workJoined_104 (by decide) ?_
        refine lv_isub hx hb dX12_workJoined_105 ?_
        refine lv_topi (fun y12 hy12 => ?_)
        obtain rfl : (nI (fr - 1)) = y12 := (hy12.trans (pk_sub (a := fr) (b := 1) (by omega))).symm
        refine va_put (D := (dC, dI)) (ci := 12) (v := .int (nI (fr - 1))) (ty := .int) (C := RX12) (T := TX12) (N := 163) (fs := fM (vS a vi vj)) hx hb hts iwsRX12_workJoined_in12 tyX12 tyX12_ok nmX12 hown hK hP hD hS 0 rfl rfl 89 (by decide) (hts _ hm_r_X12_workJoined_1) (fun _ h9 => h9) rfl (by decide +kernel) rfl rfl (Nat.le_of_ble_eq_true rfl) dX12_workJoined_106 (fun H locs hP hD hS => ?_)
        have hP : va_P (dC, dI) vwCl (WR a k h0 (fT vi 89 (nI (fr - 1))) vj (fT vF 53 (upd (vF 53) ((nI fN)).toNatClampNeg (nI (sN + 1)))) vG) H := fz_w (WR_i 89 _ rfl) hP
        have hD : va_D A (WR a k h0 (fT vi 89 (nI (fr - 1))) vj (fT vF 53 (upd (vF 53) ((nI fN)).toNatClampNeg (nI (sN + 1)))) vG) := fz_wD (WR_i 89 _ rfl) hD
        refine W.widen (k := 0) (n := 0) (by decide +kernel) (by decide +kernel) ?_
        have e9 : fT (fT vF 53 (upd (vF 53) ((nI fN)).toNatClampNeg (nI (sN + 1)))) 52 (vF 52) = fT vF 53 (upd (vF 53) ((nI fN)).toNatClampNeg (nI (sN + 1))) := fT_id _ _ (fT_ne _ _ (Nat.ne_of_beq_eq_false rfl))
        have hP := wr_PF e9 hP
        have hD := wr_DF e9 hD
        clear e9
        exact W.vret hx hb hr (fun t9_ ht hW => ⟨⟨((vF 52), (upd (vF 53) ((nI fN)).toNatClampNeg (nI (sN + 1))), (fr - 1)), rfl, by (try dsimp only); exact StpO.pop hfN hfr1 (fun _ _ => rfl) (by rw [if_neg (by omega)]; omega), by rw [ht]; exact hP, hD⟩, hS.F ht⟩) hS.2.2 dX12_workJoined_109
      · have t_79 : (((sN + 1) : Nat) : Int) = 2 := toI_nne c_79 (nI_toInt (by omega)) (by decide)
        refine lv_iload_n hx hb dX12_workJoined_82 rfl (lv_at hl 0 rfl) ?_
        refine lv_if_ne (tgt := 99) hx hb dX12_workJoined_83 (by decide) (fun c_83 => ?_) (fun c_83 => ?_)
        · have t_83 : (sk).toInt ≠ 0 := toI_ne c_83 rfl (by decide)
          refine lv_aload_n hx hb dX12_workJoined_99 rfl (lv_at hl 1 rfl) ?_
          refine lv_dup hx hb dX12_workJoined_100 rfl ?_
          refine va_get (D := (dC, dI)) (ci := 12) (v := .int (vi 89)) (C := RX12) (T := TX12) (N := 163) (fs := fM (vS a vi vj)) hx hb hts iwsRX12_workJoined_in12 hown hK hP 0 rfl rfl 89 (by decide) (hts _ hm_r_X12_workJoined_1) (fun _ h9 => h9) rfl dX12_workJoined_101 ?_
          refine lv_topi (fun y13 hy13 => ?_)
          obtain rfl : (nI fr) = y13 := (hy13.trans (hfr9)).symm
          refine lv_iconst (v := 1) hx hb dX12_workJoined_104 (by decide) ?_
          refine lv_isub hx hb dX12_workJoined_105 ?_
          refine lv_topi (fun y14 hy14 => ?_)
          obtain rfl : (nI (fr - 1)) = y14 := (hy14.trans (pk_sub (a := fr) (b := 1) (by omega))).symm
          refine va_put (D := (dC, dI)) (ci := 12) (v := .int (nI (fr - 1))) (ty := .int) (C := RX12) (T := TX12) (N := 163) (fs := fM (vS a vi vj)) hx hb hts iwsRX12_workJoined_in12 tyX12 tyX12_ok nmX12 hown hK hP hD hS 0 rfl rfl 89 (by decide) (hts _ hm_r_X12_workJoined_1) (fun _ h9 => h9) rfl (by decide +kernel) rfl rfl (Nat.le_of_ble_eq_true rfl) dX12_workJoined_106 (fun H locs hP hD hS => ?_)
          have hP : va_P (dC, dI) vwCl (WR a k h0 (fT vi 89 (nI (fr - 1))) vj (fT vF 53 (upd (vF 53) ((nI fN)).toNatClampNeg (nI (sN + 1)))) vG) H := fz_w (WR_i 89 _ rfl) hP
          have hD : va_D A (WR a k h0 (fT vi 89 (nI (fr - 1))) vj (fT vF 53 (upd (vF 53) ((nI fN)).toNatClampNeg (nI (sN + 1)))) vG) := fz_wD (WR_i 89 _ rfl) hD
          refine W.widen (k := 0) (n := 0) (by decide +kernel) (by decide +kernel) ?_
          have e9 : fT (fT vF 53 (upd (vF 53) ((nI fN)).toNatClampNeg (nI (sN + 1)))) 52 (vF 52) = fT vF 53 (upd (vF 53) ((nI fN)).toNatClampNeg (nI (sN + 1))) := fT_id _ _ (fT_ne _ _ (Nat.ne_of_beq_eq_false rfl))
          have hP := wr_PF e9 hP
          have hD := wr_DF e9 hD
          clear e9
          exact W.vret hx hb hr (fun t9_ ht hW => ⟨⟨((vF 52), (upd (vF 53) ((nI fN)).toNatClampNeg (nI (sN + 1))), (fr - 1)), rfl, by (try dsimp only); exact StpO.pop hfN hfr1 (fun _ _ => rfl) (by rw [if_neg (by omega)]; omega), by rw [ht]; exact hP, hD⟩, hS.F ht⟩) hS.2.2 dX12_workJoined_109
        · have t_83 : (sk).toInt = 0 := toI_nne c_83 rfl (by decide)
          refine lv_aload_n hx hb dX12_workJoined_86 rfl (lv_at hl 1 rfl) ?_
          refine lv_aload_n hx hb dX12_workJoined_87 rfl (lv_at hl 1 rfl) ?_
          refine va_get (D := (dC, dI)) (ci := 12) (v := .ref (a 31)) (C := RX12) (T := TX12) (N := 163) (fs := fM (vS a vi vj)) hx hb hts iwsRX12_workJoined_in12 hown hK hP 0 rfl rfl 55 (by decide) (hts (.fieldLink RX12 116 "OptimaWorksModel" "partB" "[I") (by decide +kernel)) (fun _ h9 => h9) rfl dX12_workJoined_88 ?_
          refine lv_iload_n hx hb dX12_workJoined_91 rfl (lv_at hl 3 rfl) ?_
          refine va_iald (cA := k 31) (n := 4200) (f := (vF 31)) hx hb hK hP 32 31 (WR_get 31 (by decide)) (TR_get 31 (by decide)) (vp_in_nI (show nN < 4200 by omega) (by omega)) dX12_workJoined_92 ?_
          refine lv_topi (fun y15 hy15 => ?_)
          obtain rfl : ((vF 31) nN) = y15 := (hy15.trans (by rw [nI_clamp (by omega)])).symm
          refine lv_topi (fun y16 hy16 => ?_)
          obtain rfl : (nI dN) = y16 := (hy16.trans (hdN)).symm
          have hFc := allFree hD hS hA
          refine va_callv (va_runV (As := [.int (nI dN)]) (rest := []) ⟨hx, hb, hml, hown, hts⟩ (r_X12_call l dC dI a k h0 vi vj (fT vF 53 (upd (vF 53) ((nI fN)).toNatClampNeg (nI (sN + 1)))) vG (nI dN) fr hfr9 (by first | with_reducible assumption | decide | omega | rfl | assumption) H.size) (cwV 1 hts gwsRX12_workJoined_0 rfl rfl rfl hd_yX12_call_RX12 (by decide +kernel)) (fz_pre (va_recv hK hP (ci := 12) (q0 := 0) rfl rfl) hP hK hD) rfl rfl hl.1 rfl (lv_room (Nat.le_of_ble_eq_true rfl)) dX12_workJoined_93 (by decide +kernel)) hS (fun q _ h => hFc q h) hFc (fun u t9_ H locs ht hvm hw9 hB9 hz1 hk1 hS => ?_)
          have e9F : fT (fT vF 53 (upd (upd (vF 53) ((nI fN)).toNatClampNeg (nI (sN + 1))) (nI fr).toNatClampNeg 0)) 52 (upd (vF 52) (nI fr).toNatClampNeg (nI dN)) = fT (fT (fT vF 53 (upd (vF 53) ((nI fN)).toNatClampNeg (nI (sN + 1)))) 52 (upd (vF 52) (nI fr).toNatClampNeg (nI dN))) 53 (upd (upd (vF 53) ((nI fN)).toNatClampNeg (nI (sN + 1))) (nI fr).toNatClampNeg 0) := ((fT_sw _ _ _ (Nat.ne_of_beq_eq_false rfl)).trans (congrArg (fun g9 => fT g9 52 (upd (vF 52) (nI fr).toNatClampNeg (nI dN))) (fT_sm _ _ _ _))).symm
          have hP := wr_PF e9F (fz_P ht hB9.1)
          have hD := wr_DF e9F (hB9.2.weaken (fun _ q _ h => hFc q.1 h))
          clear e9F
          refine lv_goto (tgt := 109) hx hb dX12_workJoined_96 (by decide) ?_
          refine W.widen (k := 0) (n := 0) (by decide +kernel) (by decide +kernel) ?_
          exact W.vret hx hb hr (fun t9_ ht hW => ⟨⟨((upd (vF 52) (nI fr).toNatClampNeg (nI dN)), (upd (upd (vF 53) ((nI fN)).toNatClampNeg (nI (sN + 1))) (nI fr).toNatClampNeg 0), (fr + 1)), rfl, by (try dsimp only); (obtain rfl : sN = 1 := by omega); (obtain rfl : pN = hN := hpN); exact StpO.push 2 la 1 hfN hfr1 (fun _ _ => rfl) (fun h9 => absurd h9 (by omega)) hdT.2.1 hdT.2.2.1 (by omega) (WtO.j2 hkk hdT.2.2.2.2 (Nat.le_refl _)) (by omega), by rw [ht]; exact hP, hD⟩, hS.F ht⟩) hS.2.2 dX12_workJoined_109
    · have t_56 : (((sN + 1) : Nat) : Int) = 1 := toI_nne c_56 (nI_toInt (by omega)) (by decide)
      refine lv_aload_n hx hb dX12_workJoined_59 rfl (lv_at hl 1 rfl) ?_
      refine lv_aload_n hx hb dX12_workJoined_60 rfl (lv_at hl 1 rfl) ?_
      refine va_get (D := (dC, dI)) (ci := 12) (v := .ref (a 30)) (C := RX12) (T := TX12) (N := 163) (fs := fM (vS a vi vj)) hx hb hts iwsRX12_workJoined_in12 hown hK hP 0 rfl rfl 54 (by decide) (hts (.fieldLink RX12 113 "OptimaWorksModel" "partA" "[I") (by decide +kernel)) (fun _ h9 => h9) rfl dX12_workJoined_61 ?_
      refine lv_iload_n hx hb dX12_workJoined_64 rfl (lv_at hl 3 rfl) ?_
      refine va_iald (cA := k 30) (n := 4200) (f := (vF 30)) hx hb hK hP 31 30 (WR_get 30 (by decide)) (TR_get 30 (by decide)) (vp_in_nI (show nN < 4200 by omega) (by omega)) dX12_workJoined_65 ?_
      refine lv_topi (fun y17 hy17 => ?_)
      obtain rfl : ((vF 30) nN) = y17 := (hy17.trans (by rw [nI_clamp (by omega)])).symm
      refine lv_topi (fun y18 hy18 => ?_)
      obtain rfl : (nI cN) = y18 := (hy18.trans (hcN)).symm
      have hFc := allFree hD hS hA
      refine va_callv (va_runV (As := [.int (nI cN)]) (rest := []) ⟨hx, hb, hml, hown, hts⟩ (r_X12_call l dC dI a k h0 vi vj (fT vF 53 (upd (vF 53) ((nI fN)).toNatClampNeg (nI (sN + 1)))) vG (nI cN) fr hfr9 (by first | with_reducible assumption | decide | omega | rfl | assumption) H.size) (cwV 1 hts gwsRX12_workJoined_0 rfl rfl rfl hd_yX12_call_RX12 (by decide +kernel)) (fz_pre (va_recv hK hP (ci := 12) (q0 := 0) rfl rfl) hP hK hD) rfl rfl hl.1 rfl (lv_room (Nat.le_of_ble_eq_true rfl)) dX12_workJoined_66 (by decide +kernel)) hS (fun q _ h => hFc q h) hFc (fun u t9_ H locs ht hvm hw9 hB9 hz1 hk1 hS => ?_)
      have e9F : fT (fT vF 53 (upd (upd (vF 53) ((nI fN)).toNatClampNeg (nI (sN + 1))) (nI fr).toNatClampNeg 0)) 52 (upd (vF 52) (nI fr).toNatClampNeg (nI cN)) = fT (fT (fT vF 53 (upd (vF 53) ((nI fN)).toNatClampNeg (nI (sN + 1)))) 52 (upd (vF 52) (nI fr).toNatClampNeg (nI cN))) 53 (upd (upd (vF 53) ((nI fN)).toNatClampNeg (nI (sN + 1))) (nI fr).toNatClampNeg 0) := ((fT_sw _ _ _ (Nat.ne_of_beq_eq_false rfl)).trans (congrArg (fun g9 => fT g9 52 (upd (vF 52) (nI fr).toNatClampNeg (nI cN))) (fT_sm _ _ _ _))).symm
      have hP := wr_PF e9F (fz_P ht hB9.1)
      have hD := wr_DF e9F (hB9.2.weaken (fun _ q _ h => hFc q.1 h))
      clear e9F
      refine lv_goto (tgt := 109) hx hb dX12_workJoined_69 (by decide) ?_
      refine W.widen (k := 0) (n := 0) (by decide +kernel) (by decide +kernel) ?_
      exact W.vret hx hb hr (fun t9_ ht hW => ⟨⟨((upd (vF 52) (nI fr).toNatClampNeg (nI cN)), (upd (upd (vF 53) ((nI fN)).toNatClampNeg (nI (sN + 1))) (nI fr).toNatClampNeg 0), (fr + 1)), rfl, by (try dsimp only); (obtain rfl : sN = 0 := by omega); (obtain rfl : pN = hN := hpN); exact StpO.push 1 la (wt dN + 2) hfN hfr1 (fun _ _ => rfl) (fun h9 => absurd h9 (by omega)) hcT.2.1 hcT.2.2.1 (by omega) (WtO.j1 hkk hcT.2.2.2.2 hdT (Nat.le_refl _)) (by omega), by rw [ht]; exact hP, hD⟩, hS.F ht⟩) hS.2.2 dX12_workJoined_109
end

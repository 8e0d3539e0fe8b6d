theorem hd_yX12_work_RX12 : yX12_work.cls = RX12 ∧ yX12_work.cls ≠ "java/lang/invoke/MethodHandle" ∧ yX12_work.cls ≠ "java/lang/invoke/VarHandle" ∧ (parseMethodDescriptor yX12_work.desc).map (fun d => d.parameters.length) = some 1 := by decide +kernel
theorem hd_yX12_workNumber_RX12 : yX12_workNumber.cls = RX12 ∧ yX12_workNumber.cls ≠ "java/lang/invoke/MethodHandle" ∧ yX12_workNumber.cls ≠ "java/lang/invoke/VarHandle" ∧ (parseMethodDescriptor yX12_workNumber.desc).map (fun d => d.parameters.length) = some 1 := by decide +kernel
theorem dX12_workNumber_0 : decode cX12_workNumber 0 = .ok (.aload_n 0, 1) := dk_42 (by decide +kernel)
theorem dX12_workNumber_1 : decode cX12_workNumber 1 = .ok (.aload_n 0, 1) := dk_42 (by decide +kernel)
theorem dX12_workNumber_2 : decode cX12_workNumber 2 = .ok (.getfield 221, 3) := dk_180 (by decide +kernel)
theorem dX12_workNumber_5 : decode cX12_workNumber 5 = .ok (.iload_n 1, 1) := dk_27 (by decide +kernel)
theorem dX12_workNumber_6 : decode cX12_workNumber 6 = .ok (.iaload, 1) := dk_46 (by decide +kernel)
theorem dX12_workNumber_7 : decode cX12_workNumber 7 = .ok (.invokevirtual 747, 3) := dk_182 (by decide +kernel)
theorem dX12_workNumber_10 : decode cX12_workNumber 10 = .ok (.aload_n 0, 1) := dk_42 (by decide +kernel)
theorem dX12_workNumber_11 : decode cX12_workNumber 11 = .ok (.getfield 515, 3) := dk_180 (by decide +kernel)
theorem dX12_workNumber_14 : decode cX12_workNumber 14 = .ok (.ifCond .ne 28, 3) := dk_154 (by decide +kernel)
theorem dX12_workNumber_17 : decode cX12_workNumber 17 = .ok (.aload_n 0, 1) := dk_42 (by decide +kernel)
theorem dX12_workNumber_18 : decode cX12_workNumber 18 = .ok (.aload_n 0, 1) := dk_42 (by decide +kernel)
theorem dX12_workNumber_19 : decode cX12_workNumber 19 = .ok (.getfield 659, 3) := dk_180 (by decide +kernel)
theorem dX12_workNumber_22 : decode cX12_workNumber 22 = .ok (.iconst 1, 1) := dk_4 (by decide +kernel)
theorem dX12_workNumber_23 : decode cX12_workNumber 23 = .ok (.isub, 1) := dk_100 (by decide +kernel)
theorem dX12_workNumber_24 : decode cX12_workNumber 24 = .ok (.invokevirtual 638, 3) := dk_182 (by decide +kernel)
theorem dX12_workNumber_27 : decode cX12_workNumber 27 = .ok (.ifCond .eq 15, 3) := dk_153 (by decide +kernel)
theorem dX12_workNumber_30 : decode cX12_workNumber 30 = .ok (.aload_n 0, 1) := dk_42 (by decide +kernel)
theorem dX12_workNumber_31 : decode cX12_workNumber 31 = .ok (.bipush 7, 2) := dk_16 (by decide +kernel)
theorem dX12_workNumber_33 : decode cX12_workNumber 33 = .ok (.aload_n 0, 1) := dk_42 (by decide +kernel)
theorem dX12_workNumber_34 : decode cX12_workNumber 34 = .ok (.getfield 224, 3) := dk_180 (by decide +kernel)
theorem dX12_workNumber_37 : decode cX12_workNumber 37 = .ok (.iload_n 1, 1) := dk_27 (by decide +kernel)
theorem dX12_workNumber_38 : decode cX12_workNumber 38 = .ok (.iaload, 1) := dk_46 (by decide +kernel)
theorem dX12_workNumber_39 : decode cX12_workNumber 39 = .ok (.invokevirtual 518, 3) := dk_182 (by decide +kernel)
theorem dX12_workNumber_42 : decode cX12_workNumber 42 = .ok (.return_, 1) := dk_177 (by decide +kernel)
def wsRX12_workNumber : List Cond := .code yX12_workNumber cX12_workNumber 2 none :: ([.fieldLink RX12 221 "OptimaWorksModel" "partNode" "[I", .fieldLink RX12 515 "OptimaWorksModel" "stop" "I", .fieldLink RX12 659 "OptimaWorksModel" "piled" "I", .fieldLink RX12 224 "OptimaWorksModel" "partFirst" "[I"] ++ wsX120 ++ (wsV RX12 747 RX12 yX12_work wsRX12_work) ++ (wsV RX12 638 RX12 yX12_hasVariables wsRX12_hasVariables) ++ (wsV RX12 518 RX12 yX12_faultAt wsRX12_faultAt))
theorem iwsRX12_workNumber_in12 : ∀ w ∈ wsX120, w ∈ wsRX12_workNumber := fun _ h => List.mem_cons_of_mem _ (List.mem_append_left _ (List.mem_append_left _ (List.mem_append_left _ (List.mem_append_right _ h))))
theorem gwsRX12_workNumber_0 : GoodIn wsRX12_workNumber (wsV RX12 747 RX12 yX12_work wsRX12_work) := goodIn_sub (fun _ h => List.mem_cons_of_mem _ (List.mem_append_left _ (List.mem_append_left _ (List.mem_append_right _ h)))) (gdV (by decide +kernel) gdwsRX12_work)
theorem gwsRX12_workNumber_1 : GoodIn wsRX12_workNumber (wsV RX12 638 RX12 yX12_hasVariables wsRX12_hasVariables) := goodIn_sub (fun _ h => List.mem_cons_of_mem _ (List.mem_append_left _ (List.mem_append_right _ h))) (gdV (by decide +kernel) gdwsRX12_hasVariables)
theorem gwsRX12_workNumber_2 : GoodIn wsRX12_workNumber (wsV RX12 518 RX12 yX12_faultAt wsRX12_faultAt) := goodIn_sub (fun _ h => List.mem_cons_of_mem _ (List.mem_append_right _ h)) (gdV (by decide +kernel) gdwsRX12_faultAt)
theorem gdwsRX12_workNumber : wsRX12_workNumber.all goodWord = true := gdC rfl (gdA (gdA (gdA (gdA (by decide +kernel : ([.fieldLink RX12 221 "OptimaWorksModel" "partNode" "[I", .fieldLink RX12 515 "OptimaWorksModel" "stop" "I", .fieldLink RX12 659 "OptimaWorksModel" "piled" "I", .fieldLink RX12 224 "OptimaWorksModel" "partFirst" "[I"] : List Cond).all goodWord = true) gdwsX120) (gdV (by decide +kernel) gdwsRX12_work)) (gdV (by decide +kernel) gdwsRX12_hasVariables)) (gdV (by decide +kernel) gdwsRX12_faultAt))
set_option maxHeartbeats 4000000 in
set_option maxRecDepth 100000 in
/-- workNumber(k) -/
theorem r_X12_workNumber (l : Launch) (dC : Nat → ClassId) (dI : Nat → Nat → Nat) (a : Nat → Nat) (k : Nat → ClassId) (h0 : Nat) (vi : Nat → Int32) (vj : Nat → Int64) (vF : Nat → Nat → Int32) (vG : Nat → Nat → Int64) (nF : Nat → Nat → Int32) (V : Nat → Prop) (wt : Nat → Nat) (dp : Nat → Nat) (pd : Nat → Nat) (nN : Nat) (hN : Nat) (se : Nat) (kP : Nat) (hse44 : se ≤ 44) (hSe : SeO (vF 16) (vF 17) se) (hkP : kP < 200) (hpn : vF 66 kP = nI nN) (hlin : (nF 29 nN).toInt ≤ 9) (hVo : VoK nF V wt dp pd se) (hVn : V nN) (hdp : dp nN ≤ 4200) (hpp : hN + pd nN ≤ 80) (hn17 : vF 17 = nF 17) (hn18 : vF 18 = nF 18) (hn19 : vF 19 = nF 19) (hn20 : vF 20 = nF 20) (hn21 : vF 21 = nF 21) (hn24 : vF 24 = nF 24) (hn25 : vF 25 = nF 25) (hn26 : vF 26 = nF 26) (hn27 : vF 27 = nF 27) (hn29 : vF 29 = nF 29) (hn30 : vF 30 = nF 30) (hn31 : vF 31 = nF 31) (hn32 : vF 32 = nF 32) (hn36 : vF 36 = nF 36) (hn37 : vF 37 = nF 37) (hn38 : vF 38 = nF 38) (hEn : EnO (vF 51)) (hPt : PtO (vF 22) (vF 23) (nuF nF)) (hpl : vi 81 = nI hN) (hRw : ∀ v9, v9 < hN → RowU (vF 49) (vF 50) v9) (hst0 : 0 ≤ (vi 21).toInt) (hst1 : (vi 21).toInt ≤ 0) (sz : Nat) : Met l yX12_workNumber wsRX12_workNumber ({ frames := 6, cells := 0, slots := 0, locals := 162 }) (va_Pc [.ref h0, .int (nI kP)] (fun U => U.heap.size = sz ∧ va_P (dC, dI) vwCl (WR a k h0 vi vj vF vG) U.heap ∧ va_K (dC, dI) vwCl (tX12 k) U ∧ va_D (fun _ => True) (WR a k h0 vi vj vF vG))) (va_Qv (fun (u : (Nat → Int32) × (Nat → Int32) × (Nat → Int32) × (Nat → Int32) × (Nat → Int32) × (Nat → Int32) × (Nat) × (Nat) × (Int32) × (Int32) × (Int32) × (Int32)) => (∀ v9, v9 < (u.2.2.2.2.2.2.2.1) → RowU (u.1) (u.2.1) v9) ∧ (EnO (u.2.2.1)) ∧ (0 ≤ ((u.2.2.2.2.2.2.2.2.1)).toInt) ∧ (0 < ((u.2.2.2.2.2.2.2.2.1)).toInt ∨ (u.2.2.2.2.2.2.2.1) = hN + 1)) (fun (u : (Nat → Int32) × (Nat → Int32) × (Nat → Int32) × (Nat → Int32) × (Nat → Int32) × (Nat → Int32) × (Nat) × (Nat) × (Int32) × (Int32) × (Int32) × (Int32)) t => va_P (dC, dI) vwCl (WR a k h0 (fT (fT (fT (fT (fT (fT vi 89 (nI (u.2.2.2.2.2.2.1))) 81 (nI (u.2.2.2.2.2.2.2.1))) 21 (u.2.2.2.2.2.2.2.2.1)) 22 (u.2.2.2.2.2.2.2.2.2.1)) 82 (u.2.2.2.2.2.2.2.2.2.2.1)) 84 (u.2.2.2.2.2.2.2.2.2.2.2)) vj (fT (fT (fT (fT (fT (fT vF 52 (u.2.2.2.1)) 53 (u.2.2.2.2.1)) 49 (u.1)) 50 (u.2.1)) 51 (u.2.2.1)) 54 (u.2.2.2.2.2.1)) vG) t.heap ∧ va_D (va_A (WR a k h0 vi vj vF vG) sz) (WR a k h0 (fT (fT (fT (fT (fT (fT vi 89 (nI (u.2.2.2.2.2.2.1))) 81 (nI (u.2.2.2.2.2.2.2.1))) 21 (u.2.2.2.2.2.2.2.2.1)) 22 (u.2.2.2.2.2.2.2.2.2.1)) 82 (u.2.2.2.2.2.2.2.2.2.2.1)) 84 (u.2.2.2.2.2.2.2.2.2.2.2)) vj (fT (fT (fT (fT (fT (fT vF 52 (u.2.2.2.1)) 53 (u.2.2.2.2.1)) 49 (u.1)) 50 (u.2.1)) 51 (u.2.2.1)) 54 (u.2.2.2.2.2.1)) vG)) (va_A (WR a k h0 vi vj vF vG) sz)) 0 0 (va_A (WR a k h0 vi vj vF vG) sz) := by
  refine Met.ofW (cc := cX12_workNumber) (maxL := 2) (ret := none) (by decide) rfl ?_
  intro p e s m args below meth c s₁ B hml hv
  obtain ⟨rfl, hsz, hP, hK, hD0⟩ := hv
  have hx := B.exec
  have hb := B.bytes
  have hr := B.returns
  have hts := atoms_spec (ws := wsRX12_workNumber) B.pre
  have hown : s.vm.findClass RX12 = some m.cls := findClass_of_methodNamed B.named
  have hlocks := B.notSynchronized
  subst hsz
  have hD := hD0.self (sz := s.heap.size)
  generalize hAe : va_A (WR a k h0 vi vj vF vG) s.heap.size = A at hD ⊢
  have hA : ∀ q : Nat, s.heap.size ≤ q → A q := fun q h => by rw [← hAe]; exact Or.inr h
  have hS : va_S A s.heap s.heap [] := va_S.rf
  have hl := lv_entry ([.ref h0, .int (nI kP)]) (n := 2) (Nat.le_of_ble_eq_true rfl)
  rw [lg_entry_eq]
  generalize (lg_sl ([.ref h0, .int (nI kP)]) ++ List.replicate (2 - (lg_sl ([.ref h0, .int (nI kP)])).length) Slot.unset).toArray = ls at hl ⊢
  have hl : lv_has ls 2 [(0, .ref h0), (1, .int (nI kP))] := hl
  refine lv_aload_n hx hb dX12_workNumber_0 rfl (lv_at hl 0 rfl) ?_
  refine lv_aload_n hx hb dX12_workNumber_1 rfl (lv_at hl 0 rfl) ?_
  refine va_get (D := (dC, dI)) (ci := 12) (v := .ref (a 66)) (C := RX12) (T := TX12) (N := 163) (fs := fM (vS a vi vj)) hx hb hts iwsRX12_workNumber_in12 hown hK hP 0 rfl rfl 106 (by decide) (hts (.fieldLink RX12 221 "OptimaWorksModel" "partNode" "[I") (by decide +kernel)) (fun _ h9 => h9) rfl dX12_workNumber_2 ?_
  refine lv_iload_n hx hb dX12_workNumber_5 rfl (lv_at hl 1 rfl) ?_
  refine va_iald (cA := k 66) (n := 200) (f := (vF 66)) hx hb hK hP 67 66 (WR_get 66 (by decide)) (TR_get 66 (by decide)) (vp_in_nI (show kP < 200 by omega) (by omega)) dX12_workNumber_6 ?_
  refine lv_topi (fun y1 hy1 => ?_)
  obtain rfl : ((vF 66) kP) = y1 := (hy1.trans (by rw [nI_clamp (by omega)])).symm
  refine lv_topi (fun y2 hy2 => ?_)
  obtain rfl : (nI nN) = y2 := (hy2.trans (hpn)).symm
  have hFc := allFree hD hS hA
  refine va_callv (va_runV (As := [.int (nI nN)]) (rest := []) ⟨hx, hb, hml, hown, hts⟩ (r_X12_work l dC dI a k h0 vi vj vF vG nF V wt dp pd nN hN se (by first | assumption | decide | omega | rfl) (by first | assumption | decide | omega | rfl) (by first | assumption | decide | omega | rfl) (by first | assumption | decide | omega | rfl) (by first | assumption | decide | omega | rfl) (by first | assumption | decide | omega | rfl) (by first | assumption | decide | omega | rfl) (by first | assumption | decide | omega | rfl) (by first | assumption | decide | omega | rfl) (by first | assumption | decide | omega | rfl) (by first | assumption | decide | omega | rfl) (by first | assumption | decide | omega | rfl) (by first | assumption | decide | omega | rfl) (by first | assumption | decide | omega | rfl) (by first | assumption | decide | omega | rfl) (by first | assumption | decide | omega | rfl) (by first | assumption | decide | omega | rfl) (by first | assumption | decide | omega | rfl) (by first | assumption | decide | omega | rfl) (by first | assumption | decide | omega | rfl) (by first | assumption | decide | omega | rfl) (by first | assumption | decide | omega | rfl) (by first | assumption | decide | omega | rfl) (by first | assumption | decide | omega | rfl) hpl (by first | assumption | decide | omega | rfl) (by first | assumption | decide | omega | rfl) (by first | assumption | decide | omega | rfl) s.heap.size) (cwV 1 hts gwsRX12_workNumber_0 rfl rfl rfl hd_yX12_work_RX12 (by decide +kernel)) (fz_pre (va_recv hK hP (ci := 12) (q0 := 0) rfl rfl) hP hK hD) rfl rfl hl.1 rfl (lv_room (Nat.le_of_ble_eq_true rfl)) dX12_workNumber_7 (by decide +kernel)) hS (fun q _ h => hFc q h) hFc (fun u t9_ H locs ht hvm hw9 hB9 hz1 hk1 hS => ?_)
  obtain ⟨g497, g507, g517, g527, g537, g547, fr27, pq27, s27, p27, sp27, tv27⟩ := u
  try dsimp only at hw9 hB9
  have hP : va_P (dC, dI) vwCl (WR a k h0 (fT (fT (fT (fT (fT (fT vi 89 (nI fr27)) 81 (nI pq27)) 21 s27) 22 p27) 82 sp27) 84 tv27) vj (fT (fT (fT (fT (fT (fT vF 52 g527) 53 g537) 49 g497) 50 g507) 51 g517) 54 g547) vG) H := fz_P ht hB9.1
  have hD : va_D A (WR a k h0 (fT (fT (fT (fT (fT (fT vi 89 (nI fr27)) 81 (nI pq27)) 21 s27) 22 p27) 82 sp27) 84 tv27) vj (fT (fT (fT (fT (fT (fT vF 52 g527) 53 g537) 49 g497) 50 g507) 51 g517) 54 g547) vG) := hB9.2.weaken (fun _ q _ h => hFc q.1 h)
  obtain ⟨f7_0, f7_1, f7_2, f7_3⟩ := hw9
  refine lv_aload_n hx hb dX12_workNumber_10 rfl (lv_at hl 0 rfl) ?_
  refine va_get (D := (dC, dI)) (ci := 12) (v := .int s27) (C := RX12) (T := TX12) (N := 163) (fs := fM (vS a (fT (fT (fT (fT (fT (fT vi 89 (nI fr27)) 81 (nI pq27)) 21 s27) 22 p27) 82 sp27) 84 tv27) vj)) hx hb hts iwsRX12_workNumber_in12 hown hK hP 0 rfl rfl 21 (by decide) (hts (.fieldLink RX12 515 "OptimaWorksModel" "stop" "I") (by decide +kernel)) (fun _ h9 => h9) rfl dX12_workNumber_11 ?_
  refine lv_if_ne (tgt := 42) hx hb dX12_workNumber_14 (by decide) (fun c_14 => ?_) (fun c_14 => ?_)
  · have t_14 : (s27).toInt ≠ 0 := toI_ne c_14 rfl (by decide)
    refine W.widen (k := 0) (n := 0) (by decide +kernel) (by decide +kernel) ?_
    exact W.vret hx hb hr (fun t9_ ht hW => ⟨⟨(g497, g507, g517, g527, g537, g547, fr27, pq27, s27, p27, sp27, tv27), rfl, by (try dsimp only); exact ⟨f7_0, f7_1, f7_2, by (rcases f7_3 with h9 | h9 | h9); (exact Or.inl h9); (exact Or.inr h9.1); (exact absurd hlin h9.2)⟩, by rw [ht]; exact hP, hD⟩, hS.F ht⟩) hS.2.2 dX12_workNumber_42
  · have t_14 : (s27).toInt = 0 := toI_nne c_14 rfl (by decide)
    have hpq7 : pq27 = hN + 1 := by (rcases f7_3 with h9 | h9 | h9); (exfalso; omega); (exact h9.1); (exact absurd hlin h9.2)
    refine lv_aload_n hx hb dX12_workNumber_17 rfl (lv_at hl 0 rfl) ?_
    refine lv_aload_n hx hb dX12_workNumber_18 rfl (lv_at hl 0 rfl) ?_
    refine va_get (D := (dC, dI)) (ci := 12) (v := .int (nI pq27)) (C := RX12) (T := TX12) (N := 163) (fs := fM (vS a (fT (fT (fT (fT (fT (fT vi 89 (nI fr27)) 81 (nI pq27)) 21 s27) 22 p27) 82 sp27) 84 tv27) vj)) hx hb hts iwsRX12_workNumber_in12 hown hK hP 0 rfl rfl 81 (by decide) (hts (.fieldLink RX12 659 "OptimaWorksModel" "piled" "I") (by decide +kernel)) (fun _ h9 => h9) rfl dX12_workNumber_19 ?_
    refine lv_iconst (v := 1) hx hb dX12_workNumber_22 (by decide) ?_
    refine lv_isub hx hb dX12_workNumber_23 ?_
    refine lv_topi (fun y3 hy3 => ?_)
    obtain rfl : (nI (pq27 - 1)) = y3 := (hy3.trans (pk_sub (a := pq27) (b := 1) (by omega))).symm
    have hFc := allFree hD hS hA
    refine va_calli (va_runV (As := [.int (nI (pq27 - 1))]) (rest := []) ⟨hx, hb, hml, hown, hts⟩ (r_X12_hasVariables l dC dI a k h0 (fT (fT (fT (fT (fT (fT vi 89 (nI fr27)) 81 (nI pq27)) 21 s27) 22 p27) 82 sp27) 84 tv27) vj (fT (fT (fT (fT (fT (fT vF 52 g527) 53 g537) 49 g497) 50 g507) 51 g517) 54 g547) vG (pq27 - 1) (by first | assumption | decide | omega | rfl) H.size) (cwV 1 hts gwsRX12_workNumber_1 rfl rfl rfl hd_yX12_hasVariables_RX12 (by decide +kernel)) (fz_pre (va_recv hK hP (ci := 12) (q0 := 0) rfl rfl) hP hK hD) rfl rfl hl.1 rfl (lv_room (Nat.le_of_ble_eq_true rfl)) dX12_workNumber_24 (by decide +kernel)) hS (fun q _ h => hFc q h) hFc (fun r24 u t9_ H locs ht hvm hw9 hB9 hz1 hk1 hS => ?_)
    have hP : va_P (dC, dI) vwCl (WR a k h0 (fT (fT (fT (fT (fT (fT vi 89 (nI fr27)) 81 (nI pq27)) 21 s27) 22 p27) 82 sp27) 84 tv27) vj (fT (fT (fT (fT (fT (fT vF 52 g527) 53 g537) 49 g497) 50 g507) 51 g517) 54 g547) vG) H := fz_P ht hB9.1
    have hD : va_D A (WR a k h0 (fT (fT (fT (fT (fT (fT vi 89 (nI fr27)) 81 (nI pq27)) 21 s27) 22 p27) 82 sp27) 84 tv27) vj (fT (fT (fT (fT (fT (fT vF 52 g527) 53 g537) 49 g497) 50 g507) 51 g517) 54 g547) vG) := hB9.2.weaken (fun _ q _ h => hFc q.1 h)
    have f24_0 := hw9
    try dsimp only at f24_0
    have f24_0 : ((r24) = 0 ∧ ∀ q, 1 ≤ q → q < 9 → g497 (9 * (pq27 - 1) + q) = 0) ∨ ((r24) = 1 ∧ ∃ q, 1 ≤ q ∧ q < 9 ∧ g497 (9 * (pq27 - 1) + q) ≠ 0) := f24_0
    refine lv_if_eq (tgt := 42) hx hb dX12_workNumber_27 (by decide) (fun c_27 => ?_) (fun c_27 => ?_)
    · have t_27 : (r24).toInt = 0 := toI_eq c_27 rfl (by decide)
      refine W.widen (k := 0) (n := 0) (by decide +kernel) (by decide +kernel) ?_
      exact W.vret hx hb hr (fun t9_ ht hW => ⟨⟨(g497, g507, g517, g527, g537, g547, fr27, pq27, s27, p27, sp27, tv27), rfl, by (try dsimp only); exact ⟨f7_0, f7_1, f7_2, by (rcases f7_3 with h9 | h9 | h9); (exact Or.inl h9); (exact Or.inr h9.1); (exact absurd hlin h9.2)⟩, by rw [ht]; exact hP, hD⟩, hS.F ht⟩) hS.2.2 dX12_workNumber_42
    · have t_27 : ¬ (r24).toInt = 0 := toI_neq c_27 rfl (by decide)
      refine lv_aload_n hx hb dX12_workNumber_30 rfl (lv_at hl 0 rfl) ?_
      refine lv_bipush (v := 7) hx hb dX12_workNumber_31 (by decide) ?_
      refine lv_aload_n hx hb dX12_workNumber_33 rfl (lv_at hl 0 rfl) ?_
      refine va_get (D := (dC, dI)) (ci := 12) (v := .ref (a 67)) (C := RX12) (T := TX12) (N := 163) (fs := fM (vS a (fT (fT (fT (fT (fT (fT vi 89 (nI fr27)) 81 (nI pq27)) 21 s27) 22 p27) 82 sp27) 84 tv27) vj)) hx hb hts iwsRX12_workNumber_in12 hown hK hP 0 rfl rfl 107 (by decide) (hts (.fieldLink RX12 224 "OptimaWorksModel" "partFirst" "[I") (by decide +kernel)) (fun _ h9 => h9) rfl dX12_workNumber_34 ?_
      refine lv_iload_n hx hb dX12_workNumber_37 rfl (lv_at hl 1 rfl) ?_
      refine va_iald (cA := k 67) (n := 200) (f := (vF 67)) hx hb hK hP 68 67 (WR_get 67 (by decide)) (TR_get 67 (by decide)) (vp_in_nI (show kP < 200 by omega) (by omega)) dX12_workNumber_38 ?_
      refine lv_topi (fun y4 hy4 => ?_)
      obtain rfl : ((vF 67) kP) = y4 := (hy4.trans (by rw [nI_clamp (by omega)])).symm
      have hFc := allFree hD hS hA
      refine va_callv (va_runV (As := [.int 7, .int ((vF 67) kP)]) (rest := []) ⟨hx, hb, hml, hown, hts⟩ (r_X12_faultAt l dC dI a k h0 (fT (fT (fT (fT (fT (fT vi 89 (nI fr27)) 81 (nI pq27)) 21 s27) 22 p27) 82 sp27) 84 tv27) vj (fT (fT (fT (fT (fT (fT vF 52 g527) 53 g537) 49 g497) 50 g507) 51 g517) 54 g547) vG 7 ((vF 67) kP) (by first | assumption | decide | omega | rfl) H.size) (cwV 2 hts gwsRX12_workNumber_2 rfl rfl rfl hd_yX12_faultAt_RX12 (by decide +kernel)) (fz_pre (va_recv hK hP (ci := 12) (q0 := 0) rfl rfl) hP hK hD) rfl rfl hl.1 rfl (lv_room (Nat.le_of_ble_eq_true rfl)) dX12_workNumber_39 (by decide +kernel)) hS (fun q _ h => hFc q h) hFc (fun u t9_ H locs ht hvm hw9 hB9 hz1 hk1 hS => ?_)
      obtain ⟨s239, p239⟩ := u
      try dsimp only at hw9 hB9
      have hP : va_P (dC, dI) vwCl (WR a k h0 (fT (fT (fT (fT (fT (fT (fT (fT vi 89 (nI fr27)) 81 (nI pq27)) 21 s27) 22 p27) 82 sp27) 84 tv27) 21 s239) 22 p239) vj (fT (fT (fT (fT (fT (fT vF 52 g527) 53 g537) 49 g497) 50 g507) 51 g517) 54 g547) vG) H := fz_P ht hB9.1
      have hD : va_D A (WR a k h0 (fT (fT (fT (fT (fT (fT (fT (fT vi 89 (nI fr27)) 81 (nI pq27)) 21 s27) 22 p27) 82 sp27) 84 tv27) 21 s239) 22 p239) vj (fT (fT (fT (fT (fT (fT vF 52 g527) 53 g537) 49 g497) 50 g507) 51 g517) 54 g547) vG) := hB9.2.weaken (fun _ q _ h => hFc q.1 h)
      have e9 : fT (fT (fT (fT (fT (fT vi 89 (nI fr27)) 81 (nI pq27)) 21 s239) 22 p239) 82 sp27) 84 tv27 = fT (fT (fT (fT (fT (fT (fT (fT vi 89 (nI fr27)) 81 (nI pq27)) 21 s27) 22 p27) 82 sp27) 84 tv27) 21 s239) 22 p239 := ((congrArg (fun g9 => fT g9 22 p239) ((fT_sw _ _ _ (Nat.ne_of_beq_eq_false rfl)).trans (congrArg (fun g9 => fT g9 84 tv27) ((fT_sw _ _ _ (Nat.ne_of_beq_eq_false rfl)).trans (congrArg (fun g9 => fT g9 82 sp27) ((fT_sw _ _ _ (Nat.ne_of_beq_eq_false rfl)).trans (congrArg (fun g9 => fT g9 22 p27) (fT_sm _ _ _ _)))))))).trans ((fT_sw _ _ _ (Nat.ne_of_beq_eq_false rfl)).trans (congrArg (fun g9 => fT g9 84 tv27) ((fT_sw _ _ _ (Nat.ne_of_beq_eq_false rfl)).trans (congrArg (fun g9 => fT g9 82 sp27) (fT_sm _ _ _ _)))))).symm
      rw [← e9] at hP hD
      clear e9
      have hP : va_P (dC, dI) vwCl (WR a k h0 (fT (fT (fT (fT (fT (fT vi 89 (nI fr27)) 81 (nI pq27)) 21 s239) 22 p239) 82 sp27) 84 tv27) vj (fT (fT (fT (fT (fT (fT vF 52 g527) 53 g537) 49 g497) 50 g507) 51 g517) 54 g547) vG) H := hP
      have hD : va_D A (WR a k h0 (fT (fT (fT (fT (fT (fT vi 89 (nI fr27)) 81 (nI pq27)) 21 s239) 22 p239) 82 sp27) 84 tv27) vj (fT (fT (fT (fT (fT (fT vF 52 g527) 53 g537) 49 g497) 50 g507) 51 g517) 54 g547) vG) := hD
      obtain ⟨f39_0, f39_1⟩ := hw9
      have f39_0 : (0 < s27.toInt ∧ s239 = s27 ∧ p239 = p27) ∨ (¬ 0 < s27.toInt ∧ s239 = 7 ∧ p239 = ((vF 67) kP)) := f39_0
      refine W.widen (k := 0) (n := 0) (by decide +kernel) (by decide +kernel) ?_
      exact W.vret hx hb hr (fun t9_ ht hW => ⟨⟨(g497, g507, g517, g527, g537, g547, fr27, pq27, s239, p239, sp27, tv27), rfl, by (try dsimp only); exact ⟨f7_0, f7_1, by omega, Or.inl f39_1⟩, by rw [ht]; exact hP, hD⟩, hS.F ht⟩) hS.2.2 dX12_workNumber_42
theorem dX12_bound_0 : decode cX12_bound 0 = .ok (.aload_n 0, 1) := dk_42 (by decide +kernel)
theorem dX12_bound_1 : decode cX12_bound 1 = .ok (.iload_n 1, 1) := dk_27 (by decide +kernel)
theorem dX12_bound_2 : decode cX12_bound 2 = .ok (.invokevirtual 765, 3) := dk_182 (by decide +kernel)
theorem dX12_bound_5 : decode cX12_bound 5 = .ok (.aload_n 0, 1) := dk_42 (by decide +kernel)
theorem dX12_bound_6 : decode cX12_bound 6 = .ok (.getfield 515, 3) := dk_180 (by decide +kernel)
theorem dX12_bound_9 : decode cX12_bound 9 = .ok (.ifCond .le 5, 3) := dk_158 (by decide +kernel)
theorem dX12_bound_12 : decode cX12_bound 12 = .ok (.iconst 0, 1) := dk_3 (by decide +kernel)
theorem dX12_bound_13 : decode cX12_bound 13 = .ok (.ireturn, 1) := dk_172 (by decide +kernel)
theorem dX12_bound_14 : decode cX12_bound 14 = .ok (.aload_n 0, 1) := dk_42 (by decide +kernel)
theorem dX12_bound_15 : decode cX12_bound 15 = .ok (.dup, 1) := dk_89 (by decide +kernel)
theorem dX12_bound_16 : decode cX12_bound 16 = .ok (.getfield 659, 3) := dk_180 (by decide +kernel)
theorem dX12_bound_19 : decode cX12_bound 19 = .ok (.iconst 1, 1) := dk_4 (by decide +kernel)
theorem dX12_bound_20 : decode cX12_bound 20 = .ok (.isub, 1) := dk_100 (by decide +kernel)
theorem dX12_bound_21 : decode cX12_bound 21 = .ok (.putfield 659, 3) := dk_181 (by decide +kernel)
theorem dX12_bound_24 : decode cX12_bound 24 = .ok (.aload_n 0, 1) := dk_42 (by decide +kernel)
theorem dX12_bound_25 : decode cX12_bound 25 = .ok (.getfield 173, 3) := dk_180 (by decide +kernel)
theorem dX12_bound_28 : decode cX12_bound 28 = .ok (.bipush 9, 2) := dk_16 (by decide +kernel)
theorem dX12_bound_30 : decode cX12_bound 30 = .ok (.aload_n 0, 1) := dk_42 (by decide +kernel)
theorem dX12_bound_31 : decode cX12_bound 31 = .ok (.getfield 659, 3) := dk_180 (by decide +kernel)
theorem dX12_bound_34 : decode cX12_bound 34 = .ok (.imul, 1) := dk_104 (by decide +kernel)
theorem dX12_bound_35 : decode cX12_bound 35 = .ok (.iaload, 1) := dk_46 (by decide +kernel)
theorem dX12_bound_36 : decode cX12_bound 36 = .ok (.iconst 1, 1) := dk_4 (by decide +kernel)
theorem dX12_bound_37 : decode cX12_bound 37 = .ok (.if_icmp .ne 39, 3) := dk_160 (by decide +kernel)
theorem dX12_bound_40 : decode cX12_bound 40 = .ok (.aload_n 0, 1) := dk_42 (by decide +kernel)
theorem dX12_bound_41 : decode cX12_bound 41 = .ok (.getfield 170, 3) := dk_180 (by decide +kernel)
theorem dX12_bound_44 : decode cX12_bound 44 = .ok (.bipush 9, 2) := dk_16 (by decide +kernel)
theorem dX12_bound_46 : decode cX12_bound 46 = .ok (.aload_n 0, 1) := dk_42 (by decide +kernel)
theorem dX12_bound_47 : decode cX12_bound 47 = .ok (.getfield 659, 3) := dk_180 (by decide +kernel)
theorem dX12_bound_50 : decode cX12_bound 50 = .ok (.imul, 1) := dk_104 (by decide +kernel)
theorem dX12_bound_51 : decode cX12_bound 51 = .ok (.iaload, 1) := dk_46 (by decide +kernel)
theorem dX12_bound_52 : decode cX12_bound 52 = .ok (.sipush 999, 3) := dk_17 (by decide +kernel)
theorem dX12_bound_55 : decode cX12_bound 55 = .ok (.if_icmp .gt 21, 3) := dk_163 (by decide +kernel)
theorem dX12_bound_58 : decode cX12_bound 58 = .ok (.aload_n 0, 1) := dk_42 (by decide +kernel)
theorem dX12_bound_59 : decode cX12_bound 59 = .ok (.getfield 170, 3) := dk_180 (by decide +kernel)
theorem dX12_bound_62 : decode cX12_bound 62 = .ok (.bipush 9, 2) := dk_16 (by decide +kernel)
theorem dX12_bound_64 : decode cX12_bound 64 = .ok (.aload_n 0, 1) := dk_42 (by decide +kernel)
theorem dX12_bound_65 : decode cX12_bound 65 = .ok (.getfield 659, 3) := dk_180 (by decide +kernel)
theorem dX12_bound_68 : decode cX12_bound 68 = .ok (.imul, 1) := dk_104 (by decide +kernel)
theorem dX12_bound_69 : decode cX12_bound 69 = .ok (.iaload, 1) := dk_46 (by decide +kernel)
theorem dX12_bound_70 : decode cX12_bound 70 = .ok (.sipush (-999), 3) := dk_17 (by decide +kernel)
theorem dX12_bound_73 : decode cX12_bound 73 = .ok (.if_icmp .ge 15, 3) := dk_162 (by decide +kernel)
theorem dX12_bound_76 : decode cX12_bound 76 = .ok (.aload_n 0, 1) := dk_42 (by decide +kernel)
theorem dX12_bound_77 : decode cX12_bound 77 = .ok (.bipush 9, 2) := dk_16 (by decide +kernel)
theorem dX12_bound_79 : decode cX12_bound 79 = .ok (.aload_n 0, 1) := dk_42 (by decide +kernel)
theorem dX12_bound_80 : decode cX12_bound 80 = .ok (.getfield 224, 3) := dk_180 (by decide +kernel)
theorem dX12_bound_83 : decode cX12_bound 83 = .ok (.iload_n 1, 1) := dk_27 (by decide +kernel)
theorem dX12_bound_84 : decode cX12_bound 84 = .ok (.iaload, 1) := dk_46 (by decide +kernel)
theorem dX12_bound_85 : decode cX12_bound 85 = .ok (.invokevirtual 518, 3) := dk_182 (by decide +kernel)
theorem dX12_bound_88 : decode cX12_bound 88 = .ok (.aload_n 0, 1) := dk_42 (by decide +kernel)
theorem dX12_bound_89 : decode cX12_bound 89 = .ok (.getfield 515, 3) := dk_180 (by decide +kernel)
theorem dX12_bound_92 : decode cX12_bound 92 = .ok (.ifCond .le 7, 3) := dk_158 (by decide +kernel)
theorem dX12_bound_95 : decode cX12_bound 95 = .ok (.iconst 0, 1) := dk_3 (by decide +kernel)
theorem dX12_bound_96 : decode cX12_bound 96 = .ok (.goto 15, 3) := dk_167 (by decide +kernel)
theorem dX12_bound_99 : decode cX12_bound 99 = .ok (.aload_n 0, 1) := dk_42 (by decide +kernel)
theorem dX12_bound_100 : decode cX12_bound 100 = .ok (.getfield 170, 3) := dk_180 (by decide +kernel)
theorem dX12_bound_103 : decode cX12_bound 103 = .ok (.bipush 9, 2) := dk_16 (by decide +kernel)
theorem dX12_bound_105 : decode cX12_bound 105 = .ok (.aload_n 0, 1) := dk_42 (by decide +kernel)
theorem dX12_bound_106 : decode cX12_bound 106 = .ok (.getfield 659, 3) := dk_180 (by decide +kernel)
theorem dX12_bound_109 : decode cX12_bound 109 = .ok (.imul, 1) := dk_104 (by decide +kernel)
theorem dX12_bound_110 : decode cX12_bound 110 = .ok (.iaload, 1) := dk_46 (by decide +kernel)
theorem dX12_bound_111 : decode cX12_bound 111 = .ok (.ireturn, 1) := dk_172 (by decide +kernel)
def wsRX12_bound : List Cond := .code yX12_bound cX12_bound 2 (some .int) :: ([.fieldLink RX12 515 "OptimaWorksModel" "stop" "I", .fieldLink RX12 659 "OptimaWorksModel" "piled" "I", .fieldLink RX12 173 "OptimaWorksModel" "under" "[I", .fieldLink RX12 224 "OptimaWorksModel" "partFirst" "[I", .fieldLink RX12 170 "OptimaWorksModel" "top" "[I"] ++ wsX120 ++ (wsV RX12 765 RX12 yX12_workNumber wsRX12_workNumber) ++ (wsV RX12 518 RX12 yX12_faultAt wsRX12_faultAt))
theorem iwsRX12_bound_in12 : ∀ w ∈ wsX120, w ∈ wsRX12_bound := fun _ h => List.mem_cons_of_mem _ (List.mem_append_left _ (List.mem_append_left _ (List.mem_append_right _ h)))
theorem gwsRX12_bound_0 : GoodIn wsRX12_bound (wsV RX12 765 RX12 yX12_workNumber wsRX12_workNumber) := goodIn_sub (fun _ h => List.mem_cons_of_mem _ (List.mem_append_left _ (List.mem_append_right _ h))) (gdV (by decide +kernel) gdwsRX12_workNumber)
theorem gwsRX12_bound_1 : GoodIn wsRX12_bound (wsV RX12 518 RX12 yX12_faultAt wsRX12_faultAt) := goodIn_sub (fun _ h => List.mem_cons_of_mem _ (List.mem_append_right _ h)) (gdV (by decide +kernel) gdwsRX12_faultAt)
theorem gdwsRX12_bound : wsRX12_bound.all goodWord = true := gdC rfl (gdA (gdA (gdA (by decide +kernel : ([.fieldLink RX12 515 "OptimaWorksModel" "stop" "I", .fieldLink RX12 659 "OptimaWorksModel" "piled" "I", .fieldLink RX12 173 "OptimaWorksModel" "under" "[I", .fieldLink RX12 224 "OptimaWorksModel" "partFirst" "[I", .fieldLink RX12 170 "OptimaWorksModel" "top" "[I"] : List Cond).all goodWord = true) gdwsX120) (gdV (by decide +kernel) gdwsRX12_workNumber)) (gdV (by decide +kernel) gdwsRX12_faultAt))
set_option maxHeartbeats 4000000 in
set_option maxRecDepth 100000 in
/-- bound(k) -/
theorem r_X12_bound (l : Launch) (dC : Nat → ClassId) (dI : Nat → Nat → Nat) (a : Nat → Nat) (k : Nat → ClassId) (h0 : Nat) (vi : Nat → Int32) (vj : Nat → Int64) (vF : Nat → Nat → Int32) (vG : Nat → Nat → Int64) (nF : Nat → Nat → Int32) (V : Nat → Prop) (wt : Nat → Nat) (dp : Nat → Nat) (pd : Nat → Nat) (nN : Nat) (hN : Nat) (se : Nat) (kP : Nat) (hse44 : se ≤ 44) (hSe : SeO (vF 16) (vF 17) se) (hkP : kP < 200) (hpn : vF 66 kP = nI nN) (hlin : (nF 29 nN).toInt ≤ 9) (hVo : VoK nF V wt dp pd se) (hVn : V nN) (hdp : dp nN ≤ 4200) (hpp : hN + pd nN ≤ 80) (hn17 : vF 17 = nF 17) (hn18 : vF 18 = nF 18) (hn19 : vF 19 = nF 19) (hn20 : vF 20 = nF 20) (hn21 : vF 21 = nF 21) (hn24 : vF 24 = nF 24) (hn25 : vF 25 = nF 25) (hn26 : vF 26 = nF 26) (hn27 : vF 27 = nF 27) (hn29 : vF 29 = nF 29) (hn30 : vF 30 = nF 30) (hn31 : vF 31 = nF 31) (hn32 : vF 32 = nF 32) (hn36 : vF 36 = nF 36) (hn37 : vF 37 = nF 37) (hn38 : vF 38 = nF 38) (hEn : EnO (vF 51)) (hPt : PtO (vF 22) (vF 23) (nuF nF)) (hpl : vi 81 = nI hN) (hRw : ∀ v9, v9 < hN → RowU (vF 49) (vF 50) v9) (hst0 : 0 ≤ (vi 21).toInt) (hst1 : (vi 21).toInt ≤ 0) (sz : Nat) : Met l yX12_bound wsRX12_bound ({ frames := 7, cells := 0, slots := 0, locals := 183 }) (va_Pc [.ref h0, .int (nI kP)] (fun U => U.heap.size = sz ∧ va_P (dC, dI) vwCl (WR a k h0 vi vj vF vG) U.heap ∧ va_K (dC, dI) vwCl (tX12 k) U ∧ va_D (fun _ => True) (WR a k h0 vi vj vF vG))) (va_Qi (fun (r : Int32) (u : (Nat → Int32) × (Nat → Int32) × (Nat → Int32) × (Nat → Int32) × (Nat → Int32) × (Nat → Int32) × (Nat) × (Nat) × (Int32) × (Int32) × (Int32) × (Int32)) => (∀ v9, v9 < (u.2.2.2.2.2.2.2.1) → RowU (u.1) (u.2.1) v9) ∧ (EnO (u.2.2.1)) ∧ (0 ≤ ((u.2.2.2.2.2.2.2.2.1)).toInt) ∧ (0 < ((u.2.2.2.2.2.2.2.2.1)).toInt ∨ ((u.2.2.2.2.2.2.2.1) = hN ∧ -999 ≤ (r).toInt ∧ (r).toInt ≤ 999))) (fun (u : (Nat → Int32) × (Nat → Int32) × (Nat → Int32) × (Nat → Int32) × (Nat → Int32) × (Nat → Int32) × (Nat) × (Nat) × (Int32) × (Int32) × (Int32) × (Int32)) t => va_P (dC, dI) vwCl (WR a k h0 (fT (fT (fT (fT (fT (fT vi 89 (nI (u.2.2.2.2.2.2.1))) 81 (nI (u.2.2.2.2.2.2.2.1))) 21 (u.2.2.2.2.2.2.2.2.1)) 22 (u.2.2.2.2.2.2.2.2.2.1)) 82 (u.2.2.2.2.2.2.2.2.2.2.1)) 84 (u.2.2.2.2.2.2.2.2.2.2.2)) vj (fT (fT (fT (fT (fT (fT vF 52 (u.2.2.2.1)) 53 (u.2.2.2.2.1)) 49 (u.1)) 50 (u.2.1)) 51 (u.2.2.1)) 54 (u.2.2.2.2.2.1)) vG) t.heap ∧ va_D (va_A (WR a k h0 vi vj vF vG) sz) (WR a k h0 (fT (fT (fT (fT (fT (fT vi 89 (nI (u.2.2.2.2.2.2.1))) 81 (nI (u.2.2.2.2.2.2.2.1))) 21 (u.2.2.2.2.2.2.2.2.1)) 22 (u.2.2.2.2.2.2.2.2.2.1)) 82 (u.2.2.2.2.2.2.2.2.2.2.1)) 84 (u.2.2.2.2.2.2.2.2.2.2.2)) vj (fT (fT (fT (fT (fT (fT vF 52 (u.2.2.2.1)) 53 (u.2.2.2.2.1)) 49 (u.1)) 50 (u.2.1)) 51 (u.2.2.1)) 54 (u.2.2.2.2.2.1)) vG)) (va_A (WR a k h0 vi vj vF vG) sz)) 0 0 (va_A (WR a k h0 vi vj vF vG) sz) := by
  refine Met.ofW (cc := cX12_bound) (maxL := 2) (ret := (some .int)) (by decide) rfl ?_
  intro p e s m args below meth c s₁ B hml hv
  obtain ⟨rfl, hsz, hP, hK, hD0⟩ := hv
  have hx := B.exec
  have hb := B.bytes
  have hr := B.returns
  have hts := atoms_spec (ws := wsRX12_bound) B.pre
  have hown : s.vm.findClass RX12 = some m.cls := findClass_of_methodNamed B.named
  have hlocks := B.notSynchronized
  subst hsz
  have hD := hD0.self (sz := s.heap.size)
  generalize hAe : va_A (WR a k h0 vi vj vF vG) s.heap.size = A at hD ⊢
  have hA : ∀ q : Nat, s.heap.size ≤ q → A q := fun q h => by rw [← hAe]; exact Or.inr h
  have hS : va_S A s.heap s.heap [] := va_S.rf
  have hl := lv_entry ([.ref h0, .int (nI kP)]) (n := 2) (Nat.le_of_ble_eq_true rfl)
  rw [lg_entry_eq]
  generalize (lg_sl ([.ref h0, .int (nI kP)]) ++ List.replicate (2 - (lg_sl ([.ref h0, .int (nI kP)])).length) Slot.unset).toArray = ls at hl ⊢
  have hl : lv_has ls 2 [(0, .ref h0), (1, .int (nI kP))] := hl
  refine lv_aload_n hx hb dX12_bound_0 rfl (lv_at hl 0 rfl) ?_
  refine lv_iload_n hx hb dX12_bound_1 rfl (lv_at hl 1 rfl) ?_
  have hFc := allFree hD hS hA
  refine va_callv (va_runV (As := [.int (nI kP)]) (rest := []) ⟨hx, hb, hml, hown, hts⟩ (r_X12_workNumber l dC dI a k h0 vi vj vF vG nF V wt dp pd nN hN se kP (by first | assumption | decide | omega | rfl) (by first | assumption | decide | omega | rfl) (by first | assumption | decide | omega | rfl) (by first | assumption | decide | omega | rfl) (by first | assumption | decide | omega | rfl) (by first | assumption | decide | omega | rfl) (by first | assumption | decide | omega | rfl) (by first | assumption | decide | omega | rfl) (by first | assumption | decide | omega | rfl) (by first | assumption | decide | omega | rfl) (by first | assumption | decide | omega | rfl) (by first | assumption | decide | omega | rfl) (by first | assumption | decide | omega | rfl) (by first | assumption | decide | omega | rfl) (by first | assumption | decide | omega | rfl) (by first | assumption | decide | omega | rfl) (by first | assumption | decide | omega | rfl) (by first | assumption | decide | omega | rfl) (by first | assumption | decide | omega | rfl) (by first | assumption | decide | omega | rfl) (by first | assumption | decide | omega | rfl) (by first | assumption | decide | omega | rfl) (by first | assumption | decide | omega | rfl) (by first | assumption | decide | omega | rfl) (by first | assumption | decide | omega | rfl) (by first | assumption | decide | omega | rfl) (by first | assumption | decide | omega | rfl) hpl (by first | assumption | decide | omega | rfl) (by first | assumption | decide | omega | rfl) (by first | assumption | decide | omega | rfl) s.heap.size) (cwV 1 hts gwsRX12_bound_0 rfl rfl rfl hd_yX12_workNumber_RX12 (by decide +kernel)) (fz_pre (va_recv hK hP (ci := 12) (q0 := 0) rfl rfl) hP hK hD) rfl rfl hl.1 rfl (lv_room (Nat.le_of_ble_eq_true rfl)) dX12_bound_2 (by decide +kernel)) hS (fun q _ h => hFc q h) hFc (fun u t9_ H locs ht hvm hw9 hB9 hz1 hk1 hS => ?_)
  obtain ⟨g492, g502, g512, g522, g532, g542, fr22, pq22, s22, p22, sp22, tv22⟩ := u
  try dsimp only at hw9 hB9
  have hP : va_P (dC, dI) vwCl (WR a k h0 (fT (fT (fT (fT (fT (fT vi 89 (nI fr22)) 81 (nI pq22)) 21 s22) 22 p22) 82 sp22) 84 tv22) vj (fT (fT (fT (fT (fT (fT vF 52 g522) 53 g532) 49 g492) 50 g502) 51 g512) 54 g542) vG) H := fz_P ht hB9.1
  have hD : va_D A (WR a k h0 (fT (fT (fT (fT (fT (fT vi 89 (nI fr22)) 81 (nI pq22)) 21 s22) 22 p22) 82 sp22) 84 tv22) vj (fT (fT (fT (fT (fT (fT vF 52 g522) 53 g532) 49 g492) 50 g502) 51 g512) 54 g542) vG) := hB9.2.weaken (fun _ q _ h => hFc q.1 h)
  obtain ⟨f2_0, f2_1, f2_2, f2_3⟩ := hw9
  refine lv_aload_n hx hb dX12_bound_5 rfl (lv_at hl 0 rfl) ?_
  refine va_get (D := (dC, dI)) (ci := 12) (v := .int s22) (C := RX12) (T := TX12) (N := 163) (fs := fM (vS a (fT (fT (fT (fT (fT (fT vi 89 (nI fr22)) 81 (nI pq22)) 21 s22) 22 p22) 82 sp22) 84 tv22) vj)) hx hb hts iwsRX12_bound_in12 hown hK hP 0 rfl rfl 21 (by decide) (hts (.fieldLink RX12 515 "OptimaWorksModel" "stop" "I") (by decide +kernel)) (fun _ h9 => h9) rfl dX12_bound_6 ?_
  refine lv_if_le (tgt := 14) hx hb dX12_bound_9 (by decide) (fun c_9 => ?_) (fun c_9 => ?_)
  · have t_9 : (s22).toInt ≤ 0 := toI_le c_9 rfl (by decide)
    have hpq2 : pq22 = hN + 1 := f2_3.resolve_left (by omega)
    refine lv_aload_n hx hb dX12_bound_14 rfl (lv_at hl 0 rfl) ?_
    refine lv_dup hx hb dX12_bound_15 rfl ?_
    refine va_get (D := (dC, dI)) (ci := 12) (v := .int (nI pq22)) (C := RX12) (T := TX12) (N := 163) (fs := fM (vS a (fT (fT (fT (fT (fT (fT vi 89 (nI fr22)) 81 (nI pq22)) 21 s22) 22 p22) 82 sp22) 84 tv22) vj)) hx hb hts iwsRX12_bound_in12 hown hK hP 0 rfl rfl 81 (by decide) (hts (.fieldLink RX12 659 "OptimaWorksModel" "piled" "I") (by decide +kernel)) (fun _ h9 => h9) rfl dX12_bound_16 ?_
    refine lv_iconst (v := 1) hx hb dX12_bound_19 (by decide) ?_
    refine lv_isub hx hb dX12_bound_20 ?_
    refine lv_topi (fun y1 hy1 => ?_)
    obtain rfl : (nI (pq22 - 1)) = y1 := (hy1.trans (pk_sub (a := pq22) (b := 1) (by omega))).symm
    refine va_put (D := (dC, dI)) (ci := 12) (v := .int (nI (pq22 - 1))) (ty := .int) (C := RX12) (T := TX12) (N := 163) (fs := fM (vS a (fT (fT (fT (fT (fT (fT vi 89 (nI fr22)) 81 (nI pq22)) 21 s22) 22 p22) 82 sp22) 84 tv22) vj)) hx hb hts iwsRX12_bound_in12 tyX12 tyX12_ok nmX12 hown hK hP hD hS 0 rfl rfl 81 (by decide) (hts (.fieldLink RX12 659 "OptimaWorksModel" "piled" "I") (by decide +kernel)) (fun _ h9 => h9) rfl (by decide +kernel) rfl rfl (Nat.le_of_ble_eq_true rfl) dX12_bound_21 (fun H locs hP hD hS => ?_)
    have e9 : fT (fT (fT (fT (fT (fT vi 89 (nI fr22)) 81 (nI (pq22 - 1))) 21 s22) 22 p22) 82 sp22) 84 tv22 = fT (fT (fT (fT (fT (fT (fT vi 89 (nI fr22)) 81 (nI pq22)) 21 s22) 22 p22) 82 sp22) 84 tv22) 81 (nI (pq22 - 1)) := ((fT_sw _ _ _ (Nat.ne_of_beq_eq_false rfl)).trans (congrArg (fun g9 => fT g9 84 tv22) ((fT_sw _ _ _ (Nat.ne_of_beq_eq_false rfl)).trans (congrArg (fun g9 => fT g9 82 sp22) ((fT_sw _ _ _ (Nat.ne_of_beq_eq_false rfl)).trans (congrArg (fun g9 => fT g9 22 p22) ((fT_sw _ _ _ (Nat.ne_of_beq_eq_false rfl)).trans (congrArg (fun g9 => fT g9 21 s22) (fT_sm _ _ _ _))))))))).symm
    have hP : va_P (dC, dI) vwCl (WR a k h0 (fT (fT (fT (fT (fT (fT vi 89 (nI fr22)) 81 (nI (pq22 - 1))) 21 s22) 22 p22) 82 sp22) 84 tv22) vj (fT (fT (fT (fT (fT (fT vF 52 g522) 53 g532) 49 g492) 50 g502) 51 g512) 54 g542) vG) H := by rw [e9, ← WR_i 81 _ rfl]; exact hP
    have hD : va_D A (WR a k h0 (fT (fT (fT (fT (fT (fT vi 89 (nI fr22)) 81 (nI (pq22 - 1))) 21 s22) 22 p22) 82 sp22) 84 tv22) vj (fT (fT (fT (fT (fT (fT vF 52 g522) 53 g532) 49 g492) 50 g502) 51 g512) 54 g542) vG) := by rw [e9, ← WR_i 81 _ rfl]; exact hD
    clear e9
    refine lv_aload_n hx hb dX12_bound_24 rfl (lv_at hl 0 rfl) ?_
    refine va_get (D := (dC, dI)) (ci := 12) (v := .ref (a 50)) (C := RX12) (T := TX12) (N := 163) (fs := fM (vS a (fT (fT (fT (fT (fT (fT vi 89 (nI fr22)) 81 (nI (pq22 - 1))) 21 s22) 22 p22) 82 sp22) 84 tv22) vj)) hx hb hts iwsRX12_bound_in12 hown hK hP 0 rfl rfl 79 (by decide) (hts (.fieldLink RX12 173 "OptimaWorksModel" "under" "[I") (by decide +kernel)) (fun _ h9 => h9) rfl dX12_bound_25 ?_
    refine lv_bipush (v := 9) hx hb dX12_bound_28 (by decide) ?_
    refine lv_aload_n hx hb dX12_bound_30 rfl (lv_at hl 0 rfl) ?_
    refine va_get (D := (dC, dI)) (ci := 12) (v := .int (nI (pq22 - 1))) (C := RX12) (T := TX12) (N := 163) (fs := fM (vS a (fT (fT (fT (fT (fT (fT vi 89 (nI fr22)) 81 (nI (pq22 - 1))) 21 s22) 22 p22) 82 sp22) 84 tv22) vj)) hx hb hts iwsRX12_bound_in12 hown hK hP 0 rfl rfl 81 (by decide) (hts (.fieldLink RX12 659 "OptimaWorksModel" "piled" "I") (by decide +kernel)) (fun _ h9 => h9) rfl dX12_bound_31 ?_
    refine lv_imul hx hb dX12_bound_34 ?_
    refine lv_topi (fun y2 hy2 => ?_)
    obtain rfl : (nI (9 * (pq22 - 1))) = y2 := (hy2.trans (pk_mul 9 (pq22 - 1))).symm
    refine va_iald (cA := k 50) (n := 900) (f := g502) hx hb hK hP 51 50 (WR_get 50 (by decide)) (TR_get 50 (by decide)) (vp_in_nI (show (9 * (pq22 - 1)) < 900 by omega) (by omega)) dX12_bound_35 ?_
    refine lv_topi (fun y3 hy3 => ?_)
    obtain rfl : (g502 (9 * (pq22 - 1))) = y3 := (hy3.trans (by rw [nI_clamp (by omega)])).symm
    refine lv_iconst (v := 1) hx hb dX12_bound_36 (by decide) ?_
    refine lv_icmp_ne (tgt := 76) hx hb dX12_bound_37 (by decide) (fun c_37 => ?_) (fun c_37 => ?_)
    · have t_37 : ((g502 (9 * (pq22 - 1)))).toInt ≠ 1 := toI_ne c_37 rfl (by decide)
      refine lv_aload_n hx hb dX12_bound_76 rfl (lv_at hl 0 rfl) ?_
      refine lv_bipush (v := 9) hx hb dX12_bound_77 (by decide) ?_
      refine lv_aload_n hx hb dX12_bound_79 rfl (lv_at hl 0 rfl) ?_
      refine va_get (D := (dC, dI)) (ci := 12) (v := .ref (a 67)) (C := RX12) (T := TX12) (N := 163) (fs := fM (vS a (fT (fT (fT (fT (fT (fT vi 89 (nI fr22)) 81 (nI (pq22 - 1))) 21 s22) 22 p22) 82 sp22) 84 tv22) vj)) hx hb hts iwsRX12_bound_in12 hown hK hP 0 rfl rfl 107 (by decide) (hts (.fieldLink RX12 224 "OptimaWorksModel" "partFirst" "[I") (by decide +kernel)) (fun _ h9 => h9) rfl dX12_bound_80 ?_
      refine lv_iload_n hx hb dX12_bound_83 rfl (lv_at hl 1 rfl) ?_
      refine va_iald (cA := k 67) (n := 200) (f := (vF 67)) hx hb hK hP 68 67 (WR_get 67 (by decide)) (TR_get 67 (by decide)) (vp_in_nI (show kP < 200 by omega) (by omega)) dX12_bound_84 ?_
      refine lv_topi (fun y4 hy4 => ?_)
      obtain rfl : ((vF 67) kP) = y4 := (hy4.trans (by rw [nI_clamp (by omega)])).symm
      have hFc := allFree hD hS hA
      refine va_callv (va_runV (As := [.int 9, .int ((vF 67) kP)]) (rest := []) ⟨hx, hb, hml, hown, hts⟩ (r_X12_faultAt l dC dI a k h0 (fT (fT (fT (fT (fT (fT vi 89 (nI fr22)) 81 (nI (pq22 - 1))) 21 s22) 22 p22) 82 sp22) 84 tv22) vj (fT (fT (fT (fT (fT (fT vF 52 g522) 53 g532) 49 g492) 50 g502) 51 g512) 54 g542) vG 9 ((vF 67) kP) (by first | assumption | decide | omega | rfl) H.size) (cwV 2 hts gwsRX12_bound_1 rfl rfl rfl hd_yX12_faultAt_RX12 (by decide +kernel)) (fz_pre (va_recv hK hP (ci := 12) (q0 := 0) rfl rfl) hP hK hD) rfl rfl hl.1 rfl (lv_room (Nat.le_of_ble_eq_true rfl)) dX12_bound_85 (by decide +kernel)) hS (fun q _ h => hFc q h) hFc (fun u t9_ H locs ht hvm hw9 hB9 hz1 hk1 hS => ?_)
      obtain ⟨s285, p285⟩ := u
      try dsimp only at hw9 hB9
      have hP : va_P (dC, dI) vwCl (WR a k h0 (fT (fT (fT (fT (fT (fT (fT (fT vi 89 (nI fr22)) 81 (nI (pq22 - 1))) 21 s22) 22 p22) 82 sp22) 84 tv22) 21 s285) 22 p285) vj (fT (fT (fT (fT (fT (fT vF 52 g522) 53 g532) 49 g492) 50 g502) 51 g512) 54 g542) vG) H := fz_P ht hB9.1
      have hD : va_D A (WR a k h0 (fT (fT (fT (fT (fT (fT (fT (fT vi 89 (nI fr22)) 81 (nI (pq22 - 1))) 21 s22) 22 p22) 82 sp22) 84 tv22) 21 s285) 22 p285) vj (fT (fT (fT (fT (fT (fT vF 52 g522) 53 g532) 49 g492) 50 g502) 51 g512) 54 g542) vG) := hB9.2.weaken (fun _ q _ h => hFc q.1 h)
      have e9 : fT (fT (fT (fT (fT (fT vi 89 (nI fr22)) 81 (nI (pq22 - 1))) 21 s285) 22 p285) 82 sp22) 84 tv22 = fT (fT (fT (fT (fT (fT (fT (fT vi 89 (nI fr22)) 81 (nI (pq22 - 1))) 21 s22) 22 p22) 82 sp22) 84 tv22) 21 s285) 22 p285 := ((congrArg (fun g9 => fT g9 22 p285) ((fT_sw _ _ _ (Nat.ne_of_beq_eq_false rfl)).trans (congrArg (fun g9 => fT g9 84 tv22) ((fT_sw _ _ _ (Nat.ne_of_beq_eq_false rfl)).trans (congrArg (fun g9 => fT g9 82 sp22) ((fT_sw _ _ _ (Nat.ne_of_beq_eq_false rfl)).trans (congrArg (fun g9 => fT g9 22 p22) (fT_sm _ _ _ _)))))))).trans ((fT_sw _ _ _ (Nat.ne_of_beq_eq_false rfl)).trans (congrArg (fun g9 => fT g9 84 tv22) ((fT_sw _ _ _ (Nat.ne_of_beq_eq_false rfl)).trans (congrArg (fun g9 => fT g9 82 sp22) (fT_sm _ _ _ _)))))).symm
      rw [← e9] at hP hD
      clear e9
      have hP : va_P (dC, dI) vwCl (WR a k h0 (fT (fT (fT (fT (fT (fT vi 89 (nI fr22)) 81 (nI (pq22 - 1))) 21 s285) 22 p285) 82 sp22) 84 tv22) vj (fT (fT (fT (fT (fT (fT vF 52 g522) 53 g532) 49 g492) 50 g502) 51 g512) 54 g542) vG) H := hP
      have hD : va_D A (WR a k h0 (fT (fT (fT (fT (fT (fT vi 89 (nI fr22)) 81 (nI (pq22 - 1))) 21 s285) 22 p285) 82 sp22) 84 tv22) vj (fT (fT (fT (fT (fT (fT vF 52 g522) 53 g532) 49 g492) 50 g502) 51 g512) 54 g542) vG) := hD
      obtain ⟨f85_0, f85_1⟩ := hw9
      have f85_0 : (0 < s22.toInt ∧ s285 = s22 ∧ p285 = p22) ∨ (¬ 0 < s22.toInt ∧ s285 = 9 ∧ p285 = ((vF 67) kP)) := f85_0
      refine lv_aload_n hx hb dX12_bound_88 rfl (lv_at hl 0 rfl) ?_
      refine va_get (D := (dC, dI)) (ci := 12) (v := .int s285) (C := RX12) (T := TX12) (N := 163) (fs := fM (vS a (fT (fT (fT (fT (fT (fT vi 89 (nI fr22)) 81 (nI (pq22 - 1))) 21 s285) 22 p285) 82 sp22) 84 tv22) vj)) hx hb hts iwsRX12_bound_in12 hown hK hP 0 rfl rfl 21 (by decide) (hts (.fieldLink RX12 515 "OptimaWorksModel" "stop" "I") (by decide +kernel)) (fun _ h9 => h9) rfl dX12_bound_89 ?_
      refine lv_if_le (tgt := 99) hx hb dX12_bound_92 (by decide) (fun c_92 => ?_) (fun c_92 => ?_)
      · have t_92 : (s285).toInt ≤ 0 := toI_le c_92 rfl (by decide)
        refine lv_aload_n hx hb dX12_bound_99 rfl (lv_at hl 0 rfl) ?_
        refine va_get (D := (dC, dI)) (ci := 12) (v := .ref (a 49)) (C := RX12) (T := TX12) (N := 163) (fs := fM (vS a (fT (fT (fT (fT (fT (fT vi 89 (nI fr22)) 81 (nI (pq22 - 1))) 21 s285) 22 p285) 82 sp22) 84 tv22) vj)) hx hb hts iwsRX12_bound_in12 hown hK hP 0 rfl rfl 78 (by decide) (hts (.fieldLink RX12 170 "OptimaWorksModel" "top" "[I") (by decide +kernel)) (fun _ h9 => h9) rfl dX12_bound_100 ?_
        refine lv_bipush (v := 9) hx hb dX12_bound_103 (by decide) ?_
        refine lv_aload_n hx hb dX12_bound_105 rfl (lv_at hl 0 rfl) ?_
        refine va_get (D := (dC, dI)) (ci := 12) (v := .int (nI (pq22 - 1))) (C := RX12) (T := TX12) (N := 163) (fs := fM (vS a (fT (fT (fT (fT (fT (fT vi 89 (nI fr22)) 81 (nI (pq22 - 1))) 21 s285) 22 p285) 82 sp22) 84 tv22) vj)) hx hb hts iwsRX12_bound_in12 hown hK hP 0 rfl rfl 81 (by decide) (hts (.fieldLink RX12 659 "OptimaWorksModel" "piled" "I") (by decide +kernel)) (fun _ h9 => h9) rfl dX12_bound_106 ?_
        refine lv_imul hx hb dX12_bound_109 ?_
        refine lv_topi (fun y5 hy5 => ?_)
        obtain rfl : (nI (9 * (pq22 - 1))) = y5 := (hy5.trans (pk_mul 9 (pq22 - 1))).symm
        refine va_iald (cA := k 49) (n := 900) (f := g492) hx hb hK hP 50 49 (WR_get 49 (by decide)) (TR_get 49 (by decide)) (vp_in_nI (show (9 * (pq22 - 1)) < 900 by omega) (by omega)) dX12_bound_110 ?_
        refine lv_topi (fun y6 hy6 => ?_)
        obtain rfl : (g492 (9 * (pq22 - 1))) = y6 := (hy6.trans (by rw [nI_clamp (by omega)])).symm
        refine W.widen (k := 0) (n := 0) (by decide +kernel) (by decide +kernel) ?_
        exact W.iret (v := (g492 (9 * (pq22 - 1)))) hx hb hr (fun t9_ ht hW => ⟨⟨(g492 (9 * (pq22 - 1))), (g492, g502, g512, g522, g532, g542, fr22, (pq22 - 1), s285, p285, sp22, tv22), rfl, by (try dsimp only); exact ⟨fun v9 h9 => f2_0 v9 (by omega), f2_1, by omega, Or.inr ⟨by omega, by omega⟩⟩, by rw [ht]; exact hP, hD⟩, hS.F ht⟩) hS.2.2 dX12_bound_111
      · have t_92 : ¬ (s285).toInt ≤ 0 := toI_nle c_92 rfl (by decide)
        refine lv_iconst (v := 0) hx hb dX12_bound_95 (by decide) ?_
        refine lv_goto (tgt := 111) hx hb dX12_bound_96 (by decide) ?_
        refine W.widen (k := 0) (n := 0) (by decide +kernel) (by decide +kernel) ?_
        exact W.iret (v := 0) hx hb hr (fun t9_ ht hW => ⟨⟨0, (g492, g502, g512, g522, g532, g542, fr22, (pq22 - 1), s285, p285, sp22, tv22), rfl, by (try dsimp only); exact ⟨fun v9 h9 => f2_0 v9 (by omega), f2_1, by omega, Or.inl (by omega)⟩, by rw [ht]; exact hP, hD⟩, hS.F ht⟩) hS.2.2 dX12_bound_111
    · have t_37 : ((g502 (9 * (pq22 - 1)))).toInt = 1 := toI_nne c_37 rfl (by decide)
      refine lv_aload_n hx hb dX12_bound_40 rfl (lv_at hl 0 rfl) ?_
      refine va_get (D := (dC, dI)) (ci := 12) (v := .ref (a 49)) (C := RX12) (T := TX12) (N := 163) (fs := fM (vS a (fT (fT (fT (fT (fT (fT vi 89 (nI fr22)) 81 (nI (pq22 - 1))) 21 s22) 22 p22) 82 sp22) 84 tv22) vj)) hx hb hts iwsRX12_bound_in12 hown hK hP 0 rfl rfl 78 (by decide) (hts (.fieldLink RX12 170 "OptimaWorksModel" "top" "[I") (by decide +kernel)) (fun _ h9 => h9) rfl dX12_bound_41 ?_
      refine lv_bipush (v := 9) hx hb dX12_bound_44 (by decide) ?_
      refine lv_aload_n hx hb dX12_bound_46 rfl (lv_at hl 0 rfl) ?_
      refine va_get (D := (dC, dI)) (ci := 12) (v := .int (nI (pq22 - 1))) (C := RX12) (T := TX12) (N := 163) (fs := fM (vS a (fT (fT (fT (fT (fT (fT vi 89 (nI fr22)) 81 (nI (pq22 - 1))) 21 s22) 22 p22) 82 sp22) 84 tv22) vj)) hx hb hts iwsRX12_bound_in12 hown hK hP 0 rfl rfl 81 (by decide) (hts (.fieldLink RX12 659 "OptimaWorksModel" "piled" "I") (by decide +kernel)) (fun _ h9 => h9) rfl dX12_bound_47 ?_
      refine lv_imul hx hb dX12_bound_50 ?_
      refine lv_topi (fun y7 hy7 => ?_)
      obtain rfl : (nI (9 * (pq22 - 1))) = y7 := (hy7.trans (pk_mul 9 (pq22 - 1))).symm
      refine va_iald (cA := k 49) (n := 900) (f := g492) hx hb hK hP 50 49 (WR_get 49 (by decide)) (TR_get 49 (by decide)) (vp_in_nI (show (9 * (pq22 - 1)) < 900 by omega) (by omega)) dX12_bound_51 ?_
      refine lv_topi (fun y8 hy8 => ?_)
      obtain rfl : (g492 (9 * (pq22 - 1))) = y8 := (hy8.trans (by rw [nI_clamp (by omega)])).symm
      refine lv_sipush (v := 999) hx hb dX12_bound_52 (by decide) ?_
      refine lv_icmp_gt (tgt := 76) hx hb dX12_bound_55 (by decide) (fun c_55 => ?_) (fun c_55 => ?_)
      · have t_55 : ((g492 (9 * (pq22 - 1)))).toInt > 999 := toI_gt c_55 rfl (by decide)
        refine lv_aload_n hx hb dX12_bound_76 rfl (lv_at hl 0 rfl) ?_
        refine lv_bipush (v := 9) hx hb dX12_bound_77 (by decide) ?_
        refine lv_aload_n hx hb dX12_bound_79 rfl (lv_at hl 0 rfl) ?_
        refine va_get (D := (dC, dI)) (ci := 12) (v := .ref (a 67)) (C := RX12) (T := TX12) (N := 163) (fs := fM (vS a (fT (fT (fT (fT (fT (fT vi 89 (nI fr22)) 81 (nI (pq22 - 1))) 21 s22) 22 p22) 82 sp22) 84 tv22) vj)) hx hb hts iwsRX12_bound_in12 hown hK hP 0 rfl rfl 107 (by decide) (hts (.fieldLink RX12 224 "OptimaWorksModel" "partFirst" "[I") (by decide +kernel)) (fun _ h9 => h9) rfl dX12_bound_80 ?_
        refine lv_iload_n hx hb dX12_bound_83 rfl (lv_at hl 1 rfl) ?_
        refine va_iald (cA := k 67) (n := 200) (f := (vF 67)) hx hb hK hP 68 67 (WR_get 67 (by decide)) (TR_get 67 (by decide)) (vp_in_nI (show kP < 200 by omega) (by omega)) dX12_bound_84 ?_
        refine lv_topi (fun y9 hy9 => ?_)
        obtain rfl : ((vF 67) kP) = y9 := (hy9.trans (by rw [nI_clamp (by omega)])).symm
        have hFc := allFree hD hS hA
        refine va_callv (va_runV (As := [.int 9, .int ((vF 67) kP)]) (rest := []) ⟨hx, hb, hml, hown, hts⟩ (r_X12_faultAt l dC dI a k h0 (fT (fT (fT (fT (fT (fT vi 89 (nI fr22)) 81 (nI (pq22 - 1))) 21 s22) 22 p22) 82 sp22) 84 tv22) vj (fT (fT (fT (fT (fT (fT vF 52 g522) 53 g532) 49 g492) 50 g502) 51 g512) 54 g542) vG 9 ((vF 67) kP) (by first | assumption | decide | omega | rfl) H.size) (cwV 2 hts gwsRX12_bound_1 rfl rfl rfl hd_yX12_faultAt_RX12 (by decide +kernel)) (fz_pre (va_recv hK hP (ci := 12) (q0 := 0) rfl rfl) hP hK hD) rfl rfl hl.1 rfl (lv_room (Nat.le_of_ble_eq_true rfl)) dX12_bound_85 (by decide +kernel)) hS (fun q _ h => hFc q h) hFc (fun u t9_ H locs ht hvm hw9 hB9 hz1 hk1 hS => ?_)
        obtain ⟨s285_1, p285_1⟩ := u
        try dsimp only at hw9 hB9
        have hP : va_P (dC, dI) vwCl (WR a k h0 (fT (fT (fT (fT (fT (fT (fT (fT vi 89 (nI fr22)) 81 (nI (pq22 - 1))) 21 s22) 22 p22) 82 sp22) 84 tv22) 21 s285_1) 22 p285_1) vj (fT (fT (fT (fT (fT (fT vF 52 g522) 53 g532) 49 g492) 50 g502) 51 g512) 54 g542) vG) H := fz_P ht hB9.1
        have hD : va_D A (WR a k h0 (fT (fT (fT (fT (fT (fT (fT (fT vi 89 (nI fr22)) 81 (nI (pq22 - 1))) 21 s22) 22 p22) 82 sp22) 84 tv22) 21 s285_1) 22 p285_1) vj (fT (fT (fT (fT (fT (fT vF 52 g522) 53 g532) 49 g492) 50 g502) 51 g512) 54 g542) vG) := hB9.2.weaken (fun _ q _ h => hFc q.1 h)
        have e9 : fT (fT (fT (fT (fT (fT vi 89 (nI fr22)) 81 (nI (pq22 - 1))) 21 s285_1) 22 p285_1) 82 sp22) 84 tv22 = fT (fT (fT (fT (fT (fT (fT (fT vi 89 (nI fr22)) 81 (nI (pq22 - 1))) 21 s22) 22 p22) 82 sp22) 84 tv22) 21 s285_1) 22 p285_1 := ((congrArg (fun g9 => fT g9 22 p285_1) ((fT_sw _ _ _ (Nat.ne_of_beq_eq_false rfl)).trans (congrArg (fun g9 => fT g9 84 tv22) ((fT_sw _ _ _ (Nat.ne_of_beq_eq_false rfl)).trans (congrArg (fun g9 => fT g9 82 sp22) ((fT_sw _ _ _ (Nat.ne_of_beq_eq_false rfl)).trans (congrArg (fun g9 => fT g9 22 p22) (fT_sm _ _ _ _)))))))).trans ((fT_sw _ _ _ (Nat.ne_of_beq_eq_false rfl)).trans (congrArg (fun g9 => fT g9 84 tv22) ((fT_sw _ _ _ (Nat.ne_of_beq_eq_false rfl)).trans (congrArg (fun g9 => fT g9 82 sp22) (fT_sm _ _ _ _)))))).symm
        rw [← e9] at hP hD
        clear e9
        have hP : va_P (dC, dI) vwCl (WR a k h0 (fT (fT (fT (fT (fT (fT vi 89 (nI fr22)) 81 (nI (pq22 - 1))) 21 s285_1) 22 p285_1) 82 sp22) 84 tv22) vj (fT (fT (fT (fT (fT (fT vF 52 g522) 53 g532) 49 g492) 50 g502) 51 g512) 54 g542) vG) H := hP
        have hD : va_D A (WR a k h0 (fT (fT (fT (fT (fT (fT vi 89 (nI fr22)) 81 (nI (pq22 - 1))) 21 s285_1) 22 p285_1) 82 sp22) 84 tv22) vj (fT (fT (fT (fT (fT (fT vF 52 g522) 53 g532) 49 g492) 50 g502) 51 g512) 54 g542) vG) := hD
        obtain ⟨f85_1_0, f85_1_1⟩ := hw9
        have f85_1_0 : (0 < s22.toInt ∧ s285_1 = s22 ∧ p285_1 = p22) ∨ (¬ 0 < s22.toInt ∧ s285_1 = 9 ∧ p285_1 = ((vF 67) kP)) := f85_1_0
        refine lv_aload_n hx hb dX12_bound_88 rfl (lv_at hl 0 rfl) ?_
        refine va_get (D := (dC, dI)) (ci := 12) (v := .int s285_1) (C := RX12) (T := TX12) (N := 163) (fs := fM (vS a (fT (fT (fT (fT (fT (fT vi 89 (nI fr22)) 81 (nI (pq22 - 1))) 21 s285_1) 22 p285_1) 82 sp22) 84 tv22) vj)) hx hb hts iwsRX12_bound_in12 hown hK hP 0 rfl rfl 21 (by decide) (hts (.fieldLink RX12 515 "OptimaWorksModel" "stop" "I") (by decide +kernel)) (fun _ h9 => h9) rfl dX12_bound_89 ?_
        refine lv_if_le (tgt := 99) hx hb dX12_bound_92 (by decide) (fun c_92 => ?_) (fun c_92 => ?_)
        · have t_92 : (s285_1).toInt ≤ 0 := toI_le c_92 rfl (by decide)
          refine lv_aload_n hx hb dX12_bound_99 rfl (lv_at hl 0 rfl) ?_
          refine va_get (D := (dC, dI)) (ci := 12) (v := .ref (a 49)) (C := RX12) (T := TX12) (N := 163) (fs := fM (vS a (fT (fT (fT (fT (fT (fT vi 89 (nI fr22)) 81 (nI (pq22 - 1))) 21 s285_1) 22 p285_1) 82 sp22) 84 tv22) vj)) hx hb hts iwsRX12_bound_in12 hown hK hP 0 rfl rfl 78 (by decide) (hts (.fieldLink RX12 170 "OptimaWorksModel" "top" "[I") (by decide +kernel)) (fun _ h9 => h9) rfl dX12_bound_100 ?_
          refine lv_bipush (v := 9) hx hb dX12_bound_103 (by decide) ?_
          refine lv_aload_n hx hb dX12_bound_105 rfl (lv_at hl 0 rfl) ?_
          refine va_get (D := (dC, dI)) (ci := 12) (v := .int (nI (pq22 - 1))) (C := RX12) (T := TX12) (N := 163) (fs := fM (vS a (fT (fT (fT (fT (fT (fT vi 89 (nI fr22)) 81 (nI (pq22 - 1))) 21 s285_1) 22 p285_1) 82 sp22) 84 tv22) vj)) hx hb hts iwsRX12_bound_in12 hown hK hP 0 rfl rfl 81 (by decide) (hts (.fieldLink RX12 659 "OptimaWorksModel" "piled" "I") (by decide +kernel)) (fun _ h9 => h9) rfl dX12_bound_106 ?_
          refine lv_imul hx hb dX12_bound_109 ?_
          refine lv_topi (fun y10 hy10 => ?_)
          obtain rfl : (nI (9 * (pq22 - 1))) = y10 := (hy10.trans (pk_mul 9 (pq22 - 1))).symm
          refine va_iald (cA := k 49) (n := 900) (f := g492) hx hb hK hP 50 49 (WR_get 49 (by decide)) (TR_get 49 (by decide)) (vp_in_nI (show (9 * (pq22 - 1)) < 900 by omega) (by omega)) dX12_bound_110 ?_
          refine lv_topi (fun y11 hy11 => ?_)
          obtain rfl : (g492 (9 * (pq22 - 1))) = y11 := (hy11.trans (by rw [nI_clamp (by omega)])).symm
          refine W.widen (k := 0) (n := 0) (by decide +kernel) (by decide +kernel) ?_
          exact W.iret (v := (g492 (9 * (pq22 - 1)))) hx hb hr (fun t9_ ht hW => ⟨⟨(g492 (9 * (pq22 - 1))), (g492, g502, g512, g522, g532, g542, fr22, (pq22 - 1), s285_1, p285_1, sp22, tv22), rfl, by (try dsimp only); exact ⟨fun v9 h9 => f2_0 v9 (by omega), f2_1, by omega, Or.inr ⟨by omega, by omega⟩⟩, by rw [ht]; exact hP, hD⟩, hS.F ht⟩) hS.2.2 dX12_bound_111
        · have t_92 : ¬ (s285_1).toInt ≤ 0 := toI_nle c_92 rfl (by decide)
          refine lv_iconst (v := 0) hx hb dX12_bound_95 (by decide) ?_
          refine lv_goto (tgt := 111) hx hb dX12_bound_96 (by decide) ?_
          refine W.widen (k := 0) (n := 0) (by decide +kernel) (by decide +kernel) ?_
          exact W.iret (v := 0) hx hb hr (fun t9_ ht hW => ⟨⟨0, (g492, g502, g512, g522, g532, g542, fr22, (pq22 - 1), s285_1, p285_1, sp22, tv22), rfl, by (try dsimp only); exact ⟨fun v9 h9 => f2_0 v9 (by omega), f2_1, by omega, Or.inl (by omega)⟩, by rw [ht]; exact hP, hD⟩, hS.F ht⟩) hS.2.2 dX12_bound_111
      · have t_55 : ¬ ((g492 (9 * (pq22 - 1)))).toInt > 999 := toI_ngt c_55 rfl (by decide)
        refine lv_aload_n hx hb dX12_bound_58 rfl (lv_at hl 0 rfl) ?_
        refine va_get (D := (dC, dI)) (ci := 12) (v := .ref (a 49)) (C := RX12) (T := TX12) (N := 163) (fs := fM (vS a (fT (fT (fT (fT (fT (fT vi 89 (nI fr22)) 81 (nI (pq22 - 1))) 21 s22) 22 p22) 82 sp22) 84 tv22) vj)) hx hb hts iwsRX12_bound_in12 hown hK hP 0 rfl rfl 78 (by decide) (hts (.fieldLink RX12 170 "OptimaWorksModel" "top" "[I") (by decide +kernel)) (fun _ h9 => h9) rfl dX12_bound_59 ?_
        refine lv_bipush (v := 9) hx hb dX12_bound_62 (by decide) ?_
        refine lv_aload_n hx hb dX12_bound_64 rfl (lv_at hl 0 rfl) ?_
        refine va_get (D := (dC, dI)) (ci := 12) (v := .int (nI (pq22 - 1))) (C := RX12) (T := TX12) (N := 163) (fs := fM (vS a (fT (fT (fT (fT (fT (fT vi 89 (nI fr22)) 81 (nI (pq22 - 1))) 21 s22) 22 p22) 82 sp22) 84 tv22) vj)) hx hb hts iwsRX12_bound_in12 hown hK hP 0 rfl rfl 81 (by decide) (hts (.fieldLink RX12 659 "OptimaWorksModel" "piled" "I") (by decide +kernel)) (fun _ h9 => h9) rfl dX12_bound_65 ?_
        refine lv_imul hx hb dX12_bound_68 ?_
        refine lv_topi (fun y12 hy12 => ?_)
        obtain rfl : (nI (9 * (pq22 - 1))) = y12 := (hy12.trans (pk_mul 9 (pq22 - 1))).symm
        refine va_iald (cA := k 49) (n := 900) (f := g492) hx hb hK hP 50 49 (WR_get 49 (by decide)) (TR_get 49 (by decide)) (vp_in_nI (show (9 * (pq22 - 1)) < 900 by omega) (by omega)) dX12_bound_69 ?_
        refine lv_topi (fun y13 hy13 => ?_)
        obtain rfl : (g492 (9 * (pq22 - 1))) = y13 := (hy13.trans (by rw [nI_clamp (by omega)])).symm
        refine lv_sipush (v := (-999)) hx hb dX12_bound_70 (by decide) ?_
        refine lv_icmp_ge (tgt := 88) hx hb dX12_bound_73 (by decide) (fun c_73 => ?_) (fun c_73 => ?_)
        · have t_73 : ((g492 (9 * (pq22 - 1)))).toInt ≥ -999 := toI_ge c_73 rfl (by decide)
          refine lv_aload_n hx hb dX12_bound_88 rfl (lv_at hl 0 rfl) ?_
          refine va_get (D := (dC, dI)) (ci := 12) (v := .int s22) (C := RX12) (T := TX12) (N := 163) (fs := fM (vS a (fT (fT (fT (fT (fT (fT vi 89 (nI fr22)) 81 (nI (pq22 - 1))) 21 s22) 22 p22) 82 sp22) 84 tv22) vj)) hx hb hts iwsRX12_bound_in12 hown hK hP 0 rfl rfl 21 (by decide) (hts (.fieldLink RX12 515 "OptimaWorksModel" "stop" "I") (by decide +kernel)) (fun _ h9 => h9) rfl dX12_bound_89 ?_
          refine lv_if_le (tgt := 99) hx hb dX12_bound_92 (by decide) (fun c_92 => ?_) (fun c_92 => ?_)
          · have t_92 : (s22).toInt ≤ 0 := toI_le c_92 rfl (by decide)
            refine lv_aload_n hx hb dX12_bound_99 rfl (lv_at hl 0 rfl) ?_
            refine va_get (D := (dC, dI)) (ci := 12) (v := .ref (a 49)) (C := RX12) (T := TX12) (N := 163) (fs := fM (vS a (fT (fT (fT (fT (fT (fT vi 89 (nI fr22)) 81 (nI (pq22 - 1))) 21 s22) 22 p22) 82 sp22) 84 tv22) vj)) hx hb hts iwsRX12_bound_in12 hown hK hP 0 rfl rfl 78 (by decide) (hts (.fieldLink RX12 170 "OptimaWorksModel" "top" "[I") (by decide +kernel)) (fun _ h9 => h9) rfl dX12_bound_100 ?_
            refine lv_bipush (v := 9) hx hb dX12_bound_103 (by decide) ?_
            refine lv_aload_n hx hb dX12_bound_105 rfl (lv_at hl 0 rfl) ?_
            refine va_get (D := (dC, dI)) (ci := 12) (v := .int (nI (pq22 - 1))) (C := RX12) (T := TX12) (N := 163) (fs := fM (vS a (fT (fT (fT (fT (fT (fT vi 89 (nI fr22)) 81 (nI (pq22 - 1))) 21 s22) 22 p22) 82 sp22) 84 tv22) vj)) hx hb hts iwsRX12_bound_in12 hown hK hP 0 rfl rfl 81 (by decide) (hts (.fieldLink RX12 659 "OptimaWorksModel" "piled" "I") (by decide +kernel)) (fun _ h9 => h9) rfl dX12_bound_106 ?_
            refine lv_imul hx hb dX12_bound_109 ?_
            refine lv_topi (fun y14 hy14 => ?_)
            obtain rfl : (nI (9 * (pq22 - 1))) = y14 := (hy14.trans (pk_mul 9 (pq22 - 1))).symm
            refine va_iald (cA := k 49) (n := 900) (f := g492) hx hb hK hP 50 49 (WR_get 49 (by decide)) (TR_get 49 (by decide)) (vp_in_nI (show (9 * (pq22 - 1)) < 900 by omega) (by omega)) dX12_bound_110 ?_
            refine lv_topi (fun y15 hy15 => ?_)
            obtain rfl : (g492 (9 * (pq22 - 1))) = y15 := (hy15.trans (by rw [nI_clamp (by omega)])).symm
            refine W.widen (k := 0) (n := 0) (by decide +kernel) (by decide +kernel) ?_
            exact W.iret (v := (g492 (9 * (pq22 - 1)))) hx hb hr (fun t9_ ht hW => ⟨⟨(g492 (9 * (pq22 - 1))), (g492, g502, g512, g522, g532, g542, fr22, (pq22 - 1), s22, p22, sp22, tv22), rfl, by (try dsimp only); exact ⟨fun v9 h9 => f2_0 v9 (by omega), f2_1, by omega, Or.inr ⟨by omega, by omega⟩⟩, by rw [ht]; exact hP, hD⟩, hS.F ht⟩) hS.2.2 dX12_bound_111
          · have t_92 : ¬ (s22).toInt ≤ 0 := toI_nle c_92 rfl (by decide)
            refine lv_iconst (v := 0) hx hb dX12_bound_95 (by decide) ?_
            refine lv_goto (tgt := 111) hx hb dX12_bound_96 (by decide) ?_
            refine W.widen (k := 0) (n := 0) (by decide +kernel) (by decide +kernel) ?_
            exact W.iret (v := 0) hx hb hr (fun t9_ ht hW => ⟨⟨0, (g492, g502, g512, g522, g532, g542, fr22, (pq22 - 1), s22, p22, sp22, tv22), rfl, by (try dsimp only); exact ⟨fun v9 h9 => f2_0 v9 (by omega), f2_1, by omega, Or.inl (by omega)⟩, by rw [ht]; exact hP, hD⟩, hS.F ht⟩) hS.2.2 dX12_bound_111
        · have t_73 : ¬ ((g492 (9 * (pq22 - 1)))).toInt ≥ -999 := toI_nge c_73 rfl (by decide)
          refine lv_aload_n hx hb dX12_bound_76 rfl (lv_at hl 0 rfl) ?_
          refine lv_bipush (v := 9) hx hb dX12_bound_77 (by decide) ?_
          refine lv_aload_n hx hb dX12_bound_79 rfl (lv_at hl 0 rfl) ?_
          refine va_get (D := (dC, dI)) (ci := 12) (v := .ref (a 67)) (C := RX12) (T := TX12) (N := 163) (fs := fM (vS a (fT (fT (fT (fT (fT (fT vi 89 (nI fr22)) 81 (nI (pq22 - 1))) 21 s22) 22 p22) 82 sp22) 84 tv22) vj)) hx hb hts iwsRX12_bound_in12 hown hK hP 0 rfl rfl 107 (by decide) (hts (.fieldLink RX12 224 "OptimaWorksModel" "partFirst" "[I") (by decide +kernel)) (fun _ h9 => h9) rfl dX12_bound_80 ?_
          refine lv_iload_n hx hb dX12_bound_83 rfl (lv_at hl 1 rfl) ?_
          refine va_iald (cA := k 67) (n := 200) (f := (vF 67)) hx hb hK hP 68 67 (WR_get 67 (by decide)) (TR_get 67 (by decide)) (vp_in_nI (show kP < 200 by omega) (by omega)) dX12_bound_84 ?_
          refine lv_topi (fun y16 hy16 => ?_)
          obtain rfl : ((vF 67) kP) = y16 := (hy16.trans (by rw [nI_clamp (by omega)])).symm
          have hFc := allFree hD hS hA
          refine va_callv (va_runV (As := [.int 9, .int ((vF 67) kP)]) (rest := []) ⟨hx, hb, hml, hown, hts⟩ (r_X12_faultAt l dC dI a k h0 (fT (fT (fT (fT (fT (fT vi 89 (nI fr22)) 81 (nI (pq22 - 1))) 21 s22) 22 p22) 82 sp22) 84 tv22) vj (fT (fT (fT (fT (fT (fT vF 52 g522) 53 g532) 49 g492) 50 g502) 51 g512) 54 g542) vG 9 ((vF 67) kP) (by first | assumption | decide | omega | rfl) H.size) (cwV 2 hts gwsRX12_bound_1 rfl rfl rfl hd_yX12_faultAt_RX12 (by decide +kernel)) (fz_pre (va_recv hK hP (ci := 12) (q0 := 0) rfl rfl) hP hK hD) rfl rfl hl.1 rfl (lv_room (Nat.le_of_ble_eq_true rfl)) dX12_bound_85 (by decide +kernel)) hS (fun q _ h => hFc q h) hFc (fun u t9_ H locs ht hvm hw9 hB9 hz1 hk1 hS => ?_)
          obtain ⟨s285_2, p285_2⟩ := u
          try dsimp only at hw9 hB9
          have hP : va_P (dC, dI) vwCl (WR a k h0 (fT (fT (fT (fT (fT (fT (fT (fT vi 89 (nI fr22)) 81 (nI (pq22 - 1))) 21 s22) 22 p22) 82 sp22) 84 tv22) 21 s285_2) 22 p285_2) vj (fT (fT (fT (fT (fT (fT vF 52 g522) 53 g532) 49 g492) 50 g502) 51 g512) 54 g542) vG) H := fz_P ht hB9.1
          have hD : va_D A (WR a k h0 (fT (fT (fT (fT (fT (fT (fT (fT vi 89 (nI fr22)) 81 (nI (pq22 - 1))) 21 s22) 22 p22) 82 sp22) 84 tv22) 21 s285_2) 22 p285_2) vj (fT (fT (fT (fT (fT (fT vF 52 g522) 53 g532) 49 g492) 50 g502) 51 g512) 54 g542) vG) := hB9.2.weaken (fun _ q _ h => hFc q.1 h)
          have e9 : fT (fT (fT (fT (fT (fT vi 89 (nI fr22)) 81 (nI (pq22 - 1))) 21 s285_2) 22 p285_2) 82 sp22) 84 tv22 = fT (fT (fT (fT (fT (fT (fT (fT vi 89 (nI fr22)) 81 (nI (pq22 - 1))) 21 s22) 22 p22) 82 sp22) 84 tv22) 21 s285_2) 22 p285_2 := ((congrArg (fun g9 => fT g9 22 p285_2) ((fT_sw _ _ _ (Nat.ne_of_beq_eq_false rfl)).trans (congrArg (fun g9 => fT g9 84 tv22) ((fT_sw _ _ _ (Nat.ne_of_beq_eq_false rfl)).trans (congrArg (fun g9 => fT g9 82 sp22) ((fT_sw _ _ _ (Nat.ne_of_beq_eq_false rfl)).trans (congrArg (fun g9 => fT g9 22 p22) (fT_sm _ _ _ _)))))))).trans ((fT_sw _ _ _ (Nat.ne_of_beq_eq_false rfl)).trans (congrArg (fun g9 => fT g9 84 tv22) ((fT_sw _ _ _ (Nat.ne_of_beq_eq_false rfl)).trans (congrArg (fun g9 => fT g9 82 sp22) (fT_sm _ _ _ _)))))).symm
          rw [← e9] at hP hD
          clear e9
          have hP : va_P (dC, dI) vwCl (WR a k h0 (fT (fT (fT (fT (fT (fT vi 89 (nI fr22)) 81 (nI (pq22 - 1))) 21 s285_2) 22 p285_2) 82 sp22) 84 tv22) vj (fT (fT (fT (fT (fT (fT vF 52 g522) 53 g532) 49 g492) 50 g502) 51 g512) 54 g542) vG) H := hP
          have hD : va_D A (WR a k h0 (fT (fT (fT (fT (fT (fT vi 89 (nI fr22)) 81 (nI (pq22 - 1))) 21 s285_2) 22 p285_2) 82 sp22) 84 tv22) vj (fT (fT (fT (fT (fT (fT vF 52 g522) 53 g532) 49 g492) 50 g502) 51 g512) 54 g542) vG) := hD
          obtain ⟨f85_2_0, f85_2_1⟩ := hw9
          have f85_2_0 : (0 < s22.toInt ∧ s285_2 = s22 ∧ p285_2 = p22) ∨ (¬ 0 < s22.toInt ∧ s285_2 = 9 ∧ p285_2 = ((vF 67) kP)) := f85_2_0
          refine lv_aload_n hx hb dX12_bound_88 rfl (lv_at hl 0 rfl) ?_
          refine va_get (D := (dC, dI)) (ci := 12) (v := .int s285_2) (C := RX12) (T := TX12) (N := 163) (fs := fM (vS a (fT (fT (fT (fT (fT (fT vi 89 (nI fr22)) 81 (nI (pq22 - 1))) 21 s285_2) 22 p285_2) 82 sp22) 84 tv22) vj)) hx hb hts iwsRX12_bound_in12 hown hK hP 0 rfl rfl 21 (by decide) (hts (.fieldLink RX12 515 "OptimaWorksModel" "stop" "I") (by decide +kernel)) (fun _ h9 => h9) rfl dX12_bound_89 ?_
          refine lv_if_le (tgt := 99) hx hb dX12_bound_92 (by decide) (fun c_92 => ?_) (fun c_92 => ?_)
          · have t_92 : (s285_2).toInt ≤ 0 := toI_le c_92 rfl (by decide)
            refine lv_aload_n hx hb dX12_bound_99 rfl (lv_at hl 0 rfl) ?_
            refine va_get (D := (dC, dI)) (ci := 12) (v := .ref (a 49)) (C := RX12) (T := TX12) (N := 163) (fs := fM (vS a (fT (fT (fT (fT (fT (fT vi 89 (nI fr22)) 81 (nI (pq22 - 1))) 21 s285_2) 22 p285_2) 82 sp22) 84 tv22) vj)) hx hb hts iwsRX12_bound_in12 hown hK hP 0 rfl rfl 78 (by decide) (hts (.fieldLink RX12 170 "OptimaWorksModel" "top" "[I") (by decide +kernel)) (fun _ h9 => h9) rfl dX12_bound_100 ?_
            refine lv_bipush (v := 9) hx hb dX12_bound_103 (by decide) ?_
            refine lv_aload_n hx hb dX12_bound_105 rfl (lv_at hl 0 rfl) ?_
            refine va_get (D := (dC, dI)) (ci := 12) (v := .int (nI (pq22 - 1))) (C := RX12) (T := TX12) (N := 163) (fs := fM (vS a (fT (fT (fT (fT (fT (fT vi 89 (nI fr22)) 81 (nI (pq22 - 1))) 21 s285_2) 22 p285_2) 82 sp22) 84 tv22) vj)) hx hb hts iwsRX12_bound_in12 hown hK hP 0 rfl rfl 81 (by decide) (hts (.fieldLink RX12 659 "OptimaWorksModel" "piled" "I") (by decide +kernel)) (fun _ h9 => h9) rfl dX12_bound_106 ?_
            refine lv_imul hx hb dX12_bound_109 ?_
            refine lv_topi (fun y17 hy17 => ?_)
            obtain rfl : (nI (9 * (pq22 - 1))) = y17 := (hy17.trans (pk_mul 9 (pq22 - 1))).symm
            refine va_iald (cA := k 49) (n := 900) (f := g492) hx hb hK hP 50 49 (WR_get 49 (by decide)) (TR_get 49 (by decide)) (vp_in_nI (show (9 * (pq22 - 1)) < 900 by omega) (by omega)) dX12_bound_110 ?_
            refine lv_topi (fun y18 hy18 => ?_)
            obtain rfl : (g492 (9 * (pq22 - 1))) = y18 := (hy18.trans (by rw [nI_clamp (by omega)])).symm
            refine W.widen (k := 0) (n := 0) (by decide +kernel) (by decide +kernel) ?_
            exact W.iret (v := (g492 (9 * (pq22 - 1)))) hx hb hr (fun t9_ ht hW => ⟨⟨(g492 (9 * (pq22 - 1))), (g492, g502, g512, g522, g532, g542, fr22, (pq22 - 1), s285_2, p285_2, sp22, tv22), rfl, by (try dsimp only); exact ⟨fun v9 h9 => f2_0 v9 (by omega), f2_1, by omega, Or.inr ⟨by omega, by omega⟩⟩, by rw [ht]; exact hP, hD⟩, hS.F ht⟩) hS.2.2 dX12_bound_111
          · have t_92 : ¬ (s285_2).toInt ≤ 0 := toI_nle c_92 rfl (by decide)
            refine lv_iconst (v := 0) hx hb dX12_bound_95 (by decide) ?_
            refine lv_goto (tgt := 111) hx hb dX12_bound_96 (by decide) ?_
            refine W.widen (k := 0) (n := 0) (by decide +kernel) (by decide +kernel) ?_
            exact W.iret (v := 0) hx hb hr (fun t9_ ht hW => ⟨⟨0, (g492, g502, g512, g522, g532, g542, fr22, (pq22 - 1), s285_2, p285_2, sp22, tv22), rfl, by (try dsimp only); exact ⟨fun v9 h9 => f2_0 v9 (by omega), f2_1, by omega, Or.inl (by omega)⟩, by rw [ht]; exact hP, hD⟩, hS.F ht⟩) hS.2.2 dX12_bound_111
  · have t_9 : ¬ (s22).toInt ≤ 0 := toI_nle c_9 rfl (by decide)
    refine lv_iconst (v := 0) hx hb dX12_bound_12 (by decide) ?_
    refine W.widen (k := 0) (n := 0) (by decide +kernel) (by decide +kernel) ?_
    exact W.iret (v := 0) hx hb hr (fun t9_ ht hW => ⟨⟨0, (g492, g502, g512, g522, g532, g542, fr22, pq22, s22, p22, sp22, tv22), rfl, by (try dsimp only); exact ⟨f2_0, f2_1, f2_2, Or.inl (by omega)⟩, by rw [ht]; exact hP, hD⟩, hS.F ht⟩) hS.2.2 dX12_bound_13

section
theorem hd_yX12_work_RX12 : yX12_work.cls = RX12 ∧ yX12_work.cls ≠ "java/lang/invoke/MethodHandle" ∧ yX12_work.cls ≠ "java/lang/invoke/VarHandle" ∧ (parseMethodDescriptor yX12_work.desc).map (fun d => d.parameters.length) = some 1 := by decide +kernel
theorem hd_yX12_workNumber_RX12 : yX12_workNumber.cls = RX12 ∧ yX12_workNumber.cls ≠ "java/lang/invoke/MethodHandle" ∧ yX12_workNumber.cls ≠ "java/lang/invoke/VarHandle" ∧ (parseMethodDescriptor yX12_workNumber.desc).map (fun d => d.parameters.length) = some 1 := by decide +kernel
theorem dX12_workNumber_0 : decode cX12_workNumber 0 = .ok (.aload_n 0, 1) := dk_42 (by decide +kernel)
theorem dX12_workNumber_1 : decode cX12_workNumber 1 = .ok (.aload_n 0, 1) := dk_42 (by decide +kernel)
theorem dX12_workNumber_2 : decode cX12_workNumber 2 = .ok (.getfield 221, 3) := dk_180 (by decide +kernel)
theorem dX12_workNumber_5 : decode cX12_workNumber 5 = .ok (.iload_n 1, 1) := dk_27 (by decide +kernel)
theorem dX12_workNumber_6 : decode cX12_workNumber 6 = .ok (.iaload, 1) := dk_46 (by decide +kernel)
theorem dX12_workNumber_7 : decode cX12_workNumber 7 = .ok (.invokevirtual 747, 3) := dk_182 (by decide +kernel)
theorem dX12_workNumber_10 : decode cX12_workNumber 10 = .ok (.aload_n 0, 1) := dk_42 (by decide +kernel)
theorem dX12_workNumber_11 : decode cX12_workNumber 11 = .ok (.getfield 515, 3) := dk_180 (by decide +kernel)
theorem dX12_workNumber_14 : decode cX12_workNumber 14 = .ok (.ifCond .ne 28, 3) := dk_154 (by decide +kernel)
theorem dX12_workNumber_17 : decode cX12_workNumber 17 = .ok (.aload_n 0, 1) := dk_42 (by decide +kernel)
theorem dX12_workNumber_18 : decode cX12_workNumber 18 = .ok (.aload_n 0, 1) := dk_42 (by decide +kernel)
theorem dX12_workNumber_19 : decode cX12_workNumber 19 = .ok (.getfield 659, 3) := dk_180 (by decide +kernel)
theorem dX12_workNumber_22 : decode cX12_workNumber 22 = .ok (.iconst 1, 1) := dk_4 (by decide +kernel)
theorem dX12_workNumber_23 : decode cX12_workNumber 23 = .ok (.isub, 1) := dk_100 (by decide +kernel)
theorem dX12_workNumber_24 : decode cX12_workNumber 24 = .ok (.invokevirtual 638, 3) := dk_182 (by decide +kernel)
theorem dX12_workNumber_27 : decode cX12_workNumber 27 = .ok (.ifCond .eq 15, 3) := dk_153 (by decide +kernel)
theorem dX12_workNumber_30 : decode cX12_workNumber 30 = .ok (.aload_n 0, 1) := dk_42 (by decide +kernel)
theorem dX12_workNumber_31 : decode cX12_workNumber 31 = .ok (.bipush 7, 2) := dk_16 (by decide +kernel)
theorem dX12_workNumber_33 : decode cX12_workNumber 33 = .ok (.aload_n 0, 1) := dk_42 (by decide +kernel)
theorem dX12_workNumber_34 : decode cX12_workNumber 34 = .ok (.getfield 224, 3) := dk_180 (by decide +kernel)
theorem dX12_workNumber_37 : decode cX12_workNumber 37 = .ok (.iload_n 1, 1) := dk_27 (by decide +kernel)
theorem dX12_workNumber_38 : decode cX12_workNumber 38 = .ok (.iaload, 1) := dk_46 (by decide +kernel)
theorem dX12_workNumber_39 : decode cX12_workNumber 39 = .ok (.invokevirtual 518, 3) := dk_182 (by decide +kernel)
theorem dX12_workNumber_42 : decode cX12_workNumber 42 = .ok (.return_, 1) := dk_177 (by decide +kernel)
def wsRX12_workNumber : List Cond := .code yX12_workNumber cX12_workNumber 2 none :: ([.fieldLink RX12 221 "OptimaWorksModel" "partNode" "[I", .fieldLink RX12 515 "OptimaWorksModel" "stop" "I", .fieldLink RX12 659 "OptimaWorksModel" "piled" "I", .fieldLink RX12 224 "OptimaWorksModel" "partFirst" "[I"] ++ wsX120 ++ (wsV RX12 747 RX12 yX12_work wsRX12_work) ++ (wsV RX12 638 RX12 yX12_hasVariables wsRX12_hasVariables) ++ (wsV RX12 518 RX12 yX12_faultAt wsRX12_faultAt))
theorem iwsRX12_workNumber_in12 : ∀ w ∈ wsX120, w ∈ wsRX12_workNumber := fun _ h => List.mem_cons_of_mem _ (List.mem_append_left _ (List.mem_append_left _ (List.mem_append_left _ (List.mem_append_right _ h))))
theorem gwsRX12_workNumber_0 : GoodIn wsRX12_workNumber (wsV RX12 747 RX12 yX12_work wsRX12_work) := goodIn_sub (fun _ h => List.mem_cons_of_mem _ (List.mem_append_left _ (List.mem_append_left _ (List.mem_append_right _ h)))) (gdV (by decide +kernel) gdwsRX12_work)
theorem gwsRX12_workNumber_1 : GoodIn wsRX12_workNumber (wsV RX12 638 RX12 yX12_hasVariables wsRX12_hasVariables) := goodIn_sub (fun _ h => List.mem_cons_of_mem _ (List.mem_append_left _ (List.mem_append_right _ h))) (gdV (by decide +kernel) gdwsRX12_hasVariables)
theorem gwsRX12_workNumber_2 : GoodIn wsRX12_workNumber (wsV RX12 518 RX12 yX12_faultAt wsRX12_faultAt) := goodIn_sub (fun _ h => List.mem_cons_of_mem _ (List.mem_append_right _ h)) (gdV (by decide +kernel) gdwsRX12_faultAt)
theorem gdwsRX12_workNumber : wsRX12_workNumber.all goodWord = true := gdC rfl (gdA (gdA (gdA (gdA (by decide +kernel : ([.fieldLink RX12 221 "OptimaWorksModel" "partNode" "[I", .fieldLink RX12 515 "OptimaWorksModel" "stop" "I", .fieldLink RX12 659 "OptimaWorksModel" "piled" "I", .fieldLink RX12 224 "OptimaWorksModel" "partFirst" "[I"] : List Cond).all goodWord = true) gdwsX120) (gdV (by decide +kernel) gdwsRX12_work)) (gdV (by decide +kernel) gdwsRX12_hasVariables)) (gdV (by decide +kernel) gdwsRX12_faultAt))
set_option maxHeartbeats 4000000 in
set_option maxRecDepth 100000 in
/-- workNumber(k) -/
theorem r_X12_workNumber (l : Launch) (dC : Nat → ClassId) (dI : Nat → Nat → Nat) (a : Nat → Nat) (k : Nat → ClassId) (h0 : Nat) (vi : Nat → Int32) (vj : Nat → Int64) (vF : Nat → Nat → Int32) (vG : Nat → Nat → Int64) (nF : Nat → Nat → Int32) (V : Nat → Prop) (wt : Nat → Nat) (dp : Nat → Nat) (pd : Nat → Nat) (nN : Nat) (hN : Nat) (se : Nat) (kP : Nat) (hse44 : se ≤ 44) (hSe : SeO (vF 16) (vF 17) se) (hkP : kP < 200) (hpn : vF 66 kP = nI nN) (hlin : (nF 29 nN).toInt ≤ 9) (hVo : VoK nF V wt dp pd se) (hVn : V nN) (hdp : dp nN ≤ 4200) (hpp : hN + pd nN ≤ 80) (hn17 : vF 17 = nF 17) (hn18 : vF 18 = nF 18) (hn19 : vF 19 = nF 19) (hn20 : vF 20 = nF 20) (hn21 : vF 21 = nF 21) (hn24 : vF 24 = nF 24) (hn25 : vF 25 = nF 25) (hn26 : vF 26 = nF 26) (hn27 : vF 27 = nF 27) (hn29 : vF 29 = nF 29) (hn30 : vF 30 = nF 30) (hn31 : vF 31 = nF 31) (hn32 : vF 32 = nF 32) (hn36 : vF 36 = nF 36) (hn37 : vF 37 = nF 37) (hn38 : vF 38 = nF 38) (hEn : EnO (vF 51)) (hPt : PtO (vF 22) (vF 23) (nuF nF)) (hpl : vi 81 = nI hN) (hRw : ∀ v9, v9 < hN → RowU (vF 49) (vF 50) v9) (hst0 : 0 ≤ (vi 21).toInt) (hst1 : (vi 21).toInt ≤ 0) (sz : Nat) : Met l yX12_workNumber wsRX12_workNumber ({ frames := 6, cells := 0, slots := 0, locals := 162 }) (va_Pc [.ref h0, .int (nI kP)] (fun U => U.heap.size = sz ∧ va_P (dC, dI) vwCl (WR a k h0 vi vj vF vG) U.heap ∧ va_K (dC, dI) vwCl (tX12 k) U ∧ va_D (fun _ => True) (WR a k h0 vi vj vF vG))) (va_Qv (fun (u : (Nat → Int32) × (Nat → Int32) × (Nat → Int32) × (Nat → Int32) × (Nat → Int32) × (Nat → Int32) × (Nat) × (Nat) × (Int32) × (Int32) × (Int32) × (Int32)) => (∀ v9, v9 < (u.2.2.2.2.2.2.2.1) → RowU (u.1) (u.2.1) v9) ∧ (EnO (u.2.2.1)) ∧ (0 ≤ ((u.2.2.2.2.2.2.2.2.1)).toInt) ∧ (0 < ((u.2.2.2.2.2.2.2.2.1)).toInt ∨ (u.2.2.2.2.2.2.2.1) = hN + 1)) (fun (u : (Nat → Int32) × (Nat → Int32) × (Nat → Int32) × (Nat → Int32) × (Nat → Int32) × (Nat → Int32) × (Nat) × (Nat) × (Int32) × (Int32) × (Int32) × (Int32)) t => va_P (dC, dI) vwCl (WR a k h0 (fT (fT (fT (fT (fT (fT vi 89 (nI (u.2.2.2.2.2.2.1))) 81 (nI (u.2.2.2.2.2.2.2.1))) 21 (u.2.2.2.2.2.2.2.2.1)) 22 (u.2.2.2.2.2.2.2.2.2.1)) 82 (u.2.2.2.2.2.2.2.2.2.2.1)) 84 (u.2.2.2.2.2.2.2.2.2.2.2)) vj (fT (fT (fT (fT (fT (fT vF 52 (u.2.2.2.1)) 53 (u.2.2.2.2.1)) 49 (u.1)) 50 (u.2.1)) 51 (u.2.2.1)) 54 (u.2.2.2.2.2.1)) vG) t.heap ∧ va_D (va_A (WR a k h0 vi vj vF vG) sz) (WR a k h0 (fT (fT (fT (fT (fT (fT vi 89 (nI (u.2.2.2.2.2.2.1))) 81 (nI (u.2.2.2.2.2.2.2.1))) 21 (u.2.2.2.2.2.2.2.2.1)) 22 (u.2.2.2.2.2.2.2.2.2.1)) 82 (u.2.2.2.2.2.2.2.2.2.2.1)) 84 (u.2.2.2.2.2.2.2.2.2.2.2)) vj (fT (fT (fT (fT (fT (fT vF 52 (u.2.2.2.1)) 53 (u.2.2.2.2.1)) 49 (u.1)) 50 (u.2.1)) 51 (u.2.2.1)) 54 (u.2.2.2.2.2.1)) vG)) (va_A (WR a k h0 vi vj vF vG) sz)) 0 0 (va_A (WR a k h0 vi vj vF vG) sz) := by
  refine Met.ofW (cc := cX12_workNumber) (maxL := 2) (ret := none) (by decide) rfl ?_
  intro p e s m args below meth c s₁ B hml hv
  obtain ⟨rfl, hsz, hP, hK, hD0⟩ := hv
  have hx := B.exec
  have hb := B.bytes
  have hr := B.returns
  have hts := atoms_spec (ws := wsRX12_workNumber) B.pre
  have hown : s.vm.findClass RX12 = some m.cls := findClass_of_methodNamed B.named
  have hlocks := B.notSynchronized
  subst hsz
  have hD := hD0.self (sz := s.heap.size)
  generalize hAe : va_A (WR a k h0 vi vj vF vG) s.heap.size = A at hD ⊢
  have hA : ∀ q : Nat, s.heap.size ≤ q → A q := fun q h => by rw [← hAe]; exact Or.inr h
  have hS : va_S A s.heap s.heap [] := va_S.rf
  have hl := lv_entry ([.ref h0, .int (nI kP)]) (n := 2) (Nat.le_of_ble_eq_true rfl)
  rw [lg_entry_eq]
  generalize (lg_sl ([.ref h0, .int (nI kP)]) ++ List.replicate (2 - (lg_sl ([.ref h0, .int (nI kP)])).length) Slot.unset).toArray = ls at hl ⊢
  have hl : lv_has ls 2 [(0, .ref h0), (1, .int (nI kP))] := hl
  refine lv_aload_n hx hb dX12_workNumber_0 rfl (lv_at hl 0 rfl) ?_
  refine lv_aload_n hx hb dX12_workNumber_1 rfl (lv_at hl 0 rfl) ?_
  refine va_get (D := (dC, dI)) (ci := 12) (v := .ref (a 66)) (C := RX12) (T := TX12) (N := 163) (fs := fM (vS a vi vj)) hx hb hts iwsRX12_workNumber_in12 hown hK hP 0 rfl rfl 106 (by decide) (hts (.fieldLink RX12 221 "OptimaWorksModel" "partNode" "[I") (by decide +kernel)) (fun _ h9 => h9) rfl dX12_workNumber_2 ?_
  refine lv_iload_n hx hb dX12_workNumber_5 rfl (lv_at hl 1 rfl) ?_
  refine va_iald (cA := k 66) (n := 200) (f := (vF 66)) hx hb hK hP 67 66 (WR_get 66 (by decide)) (TR_get 66 (by decide)) (vp_in_nI (show kP < 200 by omega) (by omega)) dX12_workNumber_6 ?_
  refine lv_topi (fun y1 hy1 => ?_)
  obtain rfl : ((vF 66) kP) = y1 := (hy1.trans (by rw [nI_clamp (by omega)])).symm
  refine lv_topi (fun y2 hy2 => ?_)
  obtain rfl : (nI nN) = y2 := (hy2.trans (hpn)).symm
  have hFc := allFree hD hS hA
  refine va_callv (va_runV (As := [.int (nI nN)]) (rest := []) ⟨hx, hb, hml, hown, hts⟩ (r_X12_work l dC dI a k h0 vi vj vF vG nF V wt dp pd nN hN se (by first | with_reducible assumption | decide | omega | rfl | assumption) (by first | with_reducible assumption | decide | omega | rfl | assumption) (by first | with_reducible assumption | decide | omega | rfl | assumption) (by first | with_reducible assumption | decide | omega | rfl | assumption) (by first | with_reducible assumption | decide | omega | rfl | assumption) (by first | with_reducible assumption | decide | omega | rfl | assumption) (by first | with_reducible assumption | decide | omega | rfl | assumption) (by first | with_reducible assumption | decide | omega | rfl | assumption) (by first | with_reducible assumption | decide | omega | rfl | assumption) (by first | with_reducible assumption | decide | omega | rfl | assumption) (by first | with_reducible assumption | decide | omega | rfl | assumption) (by first | with_reducible assumption | decide | omega | rfl | assumption) (by first | with_reducible assumption | decide | omega | rfl | assumption) (by first | with_reducible assumption | decide | omega | rfl | assumption) (by first | with_reducible assumption | decide | omega | rfl | assumption) (by first | with_reducible assumption | decide | omega | rfl | assumption) (by first | with_reducible assumption | decide | omega | rfl | assumption) (by first | with_reducible assumption | decide | omega | rfl | assumption) (by first | with_reducible assumption | decide | omega | rfl | assumption) (by first | with_reducible assumption | decide | omega | rfl | assumption) (by first | with_reducible assumption | decide | omega | rfl | assumption) (by first | with_reducible assumption | decide | omega | rfl | assumption) (by first | with_reducible assumption | decide | omega | rfl | assumption) (by first | with_reducible assumption | decide | omega | rfl | assumption) hpl (by first | with_reducible assumption | decide | omega | rfl | assumption) (by first | with_reducible assumption | decide | omega | rfl | assumption) (by first | with_reducible assumption | decide | omega | rfl | assumption) s.heap.size) (cwV 1 hts gwsRX12_workNumber_0 rfl rfl rfl hd_yX12_work_RX12 (by decide +kernel)) (fz_pre (va_recv hK hP (ci := 12) (q0 := 0) rfl rfl) hP hK hD) rfl rfl hl.1 rfl (lv_room (Nat.le_of_ble_eq_true rfl)) dX12_workNumber_7 (by decide +kernel)) hS (fun q _ h => hFc q h) hFc (fun u t9_ H locs ht hvm hw9 hB9 hz1 hk1 hS => ?_)
  revert u hw9 hB9
  refine fz_p12 ?_
  intro g497 g507 g517 g527 g537 g547 fr27 pq27 s27 p27 sp27 tv27 hw9 hB9
  try dsimp only at hw9 hB9
  have hP : va_P (dC, dI) vwCl (WR a k h0 (fT (fT (fT (fT (fT (fT vi 89 (nI fr27)) 81 (nI pq27)) 21 s27) 22 p27) 82 sp27) 84 tv27) vj (fT (fT (fT (fT (fT (fT vF 52 g527) 53 g537) 49 g497) 50 g507) 51 g517) 54 g547) vG) H := fz_P ht hB9.1
  have hD := fz_sd hP (hB9.2.weaken (fun _ q _ h => hFc q.1 h)) rfl
  revert hw9
  refine fz_a4 ?_
  intro f7_0 f7_1 f7_2 f7_3
  refine lv_aload_n hx hb dX12_workNumber_10 rfl (lv_at hl 0 rfl) ?_
  refine va_get (D := (dC, dI)) (ci := 12) (v := .int s27) (C := RX12) (T := TX12) (N := 163) (fs := fM (vS a (fT (fT (fT (fT (fT (fT vi 89 (nI fr27)) 81 (nI pq27)) 21 s27) 22 p27) 82 sp27) 84 tv27) vj)) hx hb hts iwsRX12_workNumber_in12 hown hK hP 0 rfl rfl 21 (by decide) (hts (.fieldLink RX12 515 "OptimaWorksModel" "stop" "I") (by decide +kernel)) (fun _ h9 => h9) rfl dX12_workNumber_11 ?_
  refine lv_if_ne (tgt := 42) hx hb dX12_workNumber_14 (by decide) (fun c_14 => ?_) (fun c_14 => ?_)
  · have t_14 : (s27).toInt ≠ 0 := toI_ne c_14 rfl (by decide)
    refine W.widen (k := 0) (n := 0) (by decide +kernel) (by decide +kernel) ?_
    exact W.vret hx hb hr (fun t9_ ht hW => ⟨⟨(g497, g507, g517, g527, g537, g547, fr27, pq27, s27, p27, sp27, tv27), rfl, by (try dsimp only); exact ⟨f7_0, f7_1, f7_2, by (rcases f7_3 with h9 | h9 | h9); (exact Or.inl h9); (exact Or.inr h9.1); (exact absurd hlin h9.2)⟩, by rw [ht]; exact hP, hD⟩, hS.F ht⟩) hS.2.2 dX12_workNumber_42
  · have t_14 : (s27).toInt = 0 := toI_nne c_14 rfl (by decide)
    have hpq7 : pq27 = hN + 1 := by (rcases f7_3 with h9 | h9 | h9); (exfalso; omega); (exact h9.1); (exact absurd hlin h9.2)
    refine lv_aload_n hx hb dX12_workNumber_17 rfl (lv_at hl 0 rfl) ?_
    refine lv_aload_n hx hb dX12_workNumber_18 rfl (lv_at hl 0 rfl) ?_
    refine va_get (D := (dC, dI)) (ci := 12) (v := .int (nI pq27)) (C := RX12) (T := TX12) (N := 163) (fs := fM (vS a (fT (fT (fT (fT (fT (fT vi 89 (nI fr27)) 81 (nI pq27)) 21 s27) 22 p27) 82 sp27) 84 tv27) vj)) hx hb hts iwsRX12_workNumber_in12 hown hK hP 0 rfl rfl 81 (by decide) (hts (.fieldLink RX12 659 "OptimaWorksModel" "piled" "I") (by decide +kernel)) (fun _ h9 => h9) rfl dX12_workNumber_19 ?_
    refine lv_iconst (v := 1) hx hb dX12_workNumber_22 (by decide) ?_
    refine lv_isub hx hb dX12_workNumber_23 ?_
    refine lv_topi (fun y3 hy3 => ?_)
    obtain rfl : (nI (pq27 - 1)) = y3 := (hy3.trans (pk_sub (a := pq27) (b := 1) (by omega))).symm
    have hFc := allFree hD hS hA
    refine va_calli (va_runV (As := [.int (nI (pq27 - 1))]) (rest := []) ⟨hx, hb, hml, hown, hts⟩ (r_X12_hasVariables l dC dI a k h0 (fT (fT (fT (fT (fT (fT vi 89 (nI fr27)) 81 (nI pq27)) 21 s27) 22 p27) 82 sp27) 84 tv27) vj (fT (fT (fT (fT (fT (fT vF 52 g527) 53 g537) 49 g497) 50 g507) 51 g517) 54 g547) vG (pq27 - 1) (by first | with_reducible assumption | decide | omega | rfl | assumption) H.size) (cwV 1 hts gwsRX12_workNumber_1 rfl rfl rfl hd_yX12_hasVariables_RX12 (by decide +kernel)) (fz_pre (va_recv hK hP (ci := 12) (q0 := 0) rfl rfl) hP hK hD) rfl rfl hl.1 rfl (lv_room (Nat.le_of_ble_eq_true rfl)) dX12_workNumber_24 (by decide +kernel)) hS (fun q _ h => hFc q h) hFc (fun r24 u t9_ H locs ht hvm hw9 hB9 hz1 hk1 hS => ?_)
    have hP : va_P (dC, dI) vwCl (WR a k h0 (fT (fT (fT (fT (fT (fT vi 89 (nI fr27)) 81 (nI pq27)) 21 s27) 22 p27) 82 sp27) 84 tv27) vj (fT (fT (fT (fT (fT (fT vF 52 g527) 53 g537) 49 g497) 50 g507) 51 g517) 54 g547) vG) H := fz_P ht hB9.1
    have hD := fz_sd hP (hB9.2.weaken (fun _ q _ h => hFc q.1 h)) rfl
    have f24_0 := hw9
    try dsimp only at f24_0
    have f24_0 : ((r24) = 0 ∧ ∀ q, 1 ≤ q → q < 9 → g497 (9 * (pq27 - 1) + q) = 0) ∨ ((r24) = 1 ∧ ∃ q, 1 ≤ q ∧ q < 9 ∧ g497 (9 * (pq27 - 1) + q) ≠ 0) := f24_0
    refine lv_if_eq (tgt := 42) hx hb dX12_workNumber_27 (by decide) (fun c_27 => ?_) (fun c_27 => ?_)
    · have t_27 : (r24).toInt = 0 := toI_eq c_27 rfl (by decide)
      refine W.widen (k := 0) (n := 0) (by decide +kernel) (by decide +kernel) ?_
      exact W.vret hx hb hr (fun t9_ ht hW => ⟨⟨(g497, g507, g517, g527, g537, g547, fr27, pq27, s27, p27, sp27, tv27), rfl, by (try dsimp only); exact ⟨f7_0, f7_1, f7_2, by (rcases f7_3 with h9 | h9 | h9); (exact Or.inl h9); (exact Or.inr h9.1); (exact absurd hlin h9.2)⟩, by rw [ht]; exact hP, hD⟩, hS.F ht⟩) hS.2.2 dX12_workNumber_42
    · have t_27 : ¬ (r24).toInt = 0 := toI_neq c_27 rfl (by decide)
      refine lv_aload_n hx hb dX12_workNumber_30 rfl (lv_at hl 0 rfl) ?_
      refine lv_bipush (v := 7) hx hb dX12_workNumber_31 (by decide) ?_
      refine lv_aload_n hx hb dX12_workNumber_33 rfl (lv_at hl 0 rfl) ?_
      refine va_get (D := (dC, dI)) (ci := 12) (v := .ref (a 67)) (C := RX12) (T := TX12) (N := 163) (fs := fM (vS a (fT (fT (fT (fT (fT (fT vi 89 (nI fr27)) 81 (nI pq27)) 21 s27) 22 p27) 82 sp27) 84 tv27) vj)) hx hb hts iwsRX12_workNumber_in12 hown hK hP 0 rfl rfl 107 (by decide) (hts (.fieldLink RX12 224 "OptimaWorksModel" "partFirst" "[I") (by decide +kernel)) (fun _ h9 => h9) rfl dX12_workNumber_34 ?_
      refine lv_iload_n hx hb dX12_workNumber_37 rfl (lv_at hl 1 rfl) ?_
      refine va_iald (cA := k 67) (n := 200) (f := (vF 67)) hx hb hK hP 68 67 (WR_get 67 (by decide)) (TR_get 67 (by decide)) (vp_in_nI (show kP < 200 by omega) (by omega)) dX12_workNumber_38 ?_
      refine lv_topi (fun y4 hy4 => ?_)
      obtain rfl : ((vF 67) kP) = y4 := (hy4.trans (by rw [nI_clamp (by omega)])).symm
      have hFc := allFree hD hS hA
      refine va_callv (va_runV (As := [.int 7, .int ((vF 67) kP)]) (rest := []) ⟨hx, hb, hml, hown, hts⟩ (r_X12_faultAt l dC dI a k h0 (fT (fT (fT (fT (fT (fT vi 89 (nI fr27)) 81 (nI pq27)) 21 s27) 22 p27) 82 sp27) 84 tv27) vj (fT (fT (fT (fT (fT (fT vF 52 g527) 53 g537) 49 g497) 50 g507) 51 g517) 54 g547) vG 7 ((vF 67) kP) (by first | with_reducible assumption | decide | omega | rfl | assumption) H.size) (cwV 2 hts gwsRX12_workNumber_2 rfl rfl rfl hd_yX12_faultAt_RX12 (by decide +kernel)) (fz_pre (va_recv hK hP (ci := 12) (q0 := 0) rfl rfl) hP hK hD) rfl rfl hl.1 rfl (lv_room (Nat.le_of_ble_eq_true rfl)) dX12_workNumber_39 (by decide +kernel)) hS (fun q _ h => hFc q h) hFc (fun u t9_ H locs ht hvm hw9 hB9 hz1 hk1 hS => ?_)
      revert u hw9 hB9
      refine fz_p2 ?_
      intro s239 p239 hw9 hB9
      try dsimp only at hw9 hB9
      have e9i : fT (fT (fT (fT (fT (fT vi 89 (nI fr27)) 81 (nI pq27)) 21 s239) 22 p239) 82 sp27) 84 tv27 = fT (fT (fT (fT (fT (fT (fT (fT vi 89 (nI fr27)) 81 (nI pq27)) 21 s27) 22 p27) 82 sp27) 84 tv27) 21 s239) 22 p239 := Eq.symm (Eq.trans (congrArg (fun g9 => fT g9 22 p239) (up_3 rfl)) (up_2 rfl))
      have hP := wr_Pi e9i (fz_P ht hB9.1)
      have hD := wr_Di e9i (hB9.2.weaken (fun _ q _ h => hFc q.1 h))
      clear e9i
      revert hw9
      refine fz_a2 ?_
      intro f39_0 f39_1
      have f39_0 : (0 < s27.toInt ∧ s239 = s27 ∧ p239 = p27) ∨ (¬ 0 < s27.toInt ∧ s239 = 7 ∧ p239 = ((vF 67) kP)) := f39_0
      refine W.widen (k := 0) (n := 0) (by decide +kernel) (by decide +kernel) ?_
      exact W.vret hx hb hr (fun t9_ ht hW => ⟨⟨(g497, g507, g517, g527, g537, g547, fr27, pq27, s239, p239, sp27, tv27), rfl, by (try dsimp only); exact ⟨f7_0, f7_1, by omega, Or.inl f39_1⟩, by rw [ht]; exact hP, hD⟩, hS.F ht⟩) hS.2.2 dX12_workNumber_42
theorem dX12_bound_0 : decode cX12_bound 0 = .ok (.aload_n 0, 1) := dk_42 (by decide +kernel)
theorem dX12_bound_1 : decode cX12_bound 1 = .ok (.iload_n 1, 1) := dk_27 (by decide +kernel)
theorem dX12_bound_2 : decode cX12_bound 2 = .ok (.invokevirtual 765, 3) := dk_182 (by decide +kernel)
theorem dX12_bound_5 : decode cX12_bound 5 = .ok (.aload_n 0, 1) := dk_42 (by decide +kernel)
theorem dX12_bound_6 : decode cX12_bound 6 = .ok (.getfield 515, 3) := dk_180 (by decide +kernel)
theorem dX12_bound_9 : decode cX12_bound 9 = .ok (.ifCond .le 5, 3) := dk_158 (by decide +kernel)
theorem dX12_bound_12 : decode cX12_bound 12 = .ok (.iconst 0, 1) := dk_3 (by decide +kernel)
theorem dX12_bound_13 : decode cX12_bound 13 = .ok (.ireturn, 1) := dk_172 (by decide +kernel)
theorem dX12_bound_14 : decode cX12_bound 14 = .ok (.aload_n 0, 1) := dk_42 (by decide +kernel)
theorem dX12_bound_15 : decode cX12_bound 15 = .ok (.dup, 1) := dk_89 (by decide +kernel)
theorem dX12_bound_16 : decode cX12_bound 16 = .ok (.getfield 659, 3) := dk_180 (by decide +kernel)
theorem dX12_bound_19 : decode cX12_bound 19 = .ok (.iconst 1, 1) := dk_4 (by decide +kernel)
theorem dX12_bound_20 : decode cX12_bound 20 = .ok (.isub, 1) := dk_100 (by decide +kernel)
theorem dX12_bound_21 : decode cX12_bound 21 = .ok (.putfield 659, 3) := dk_181 (by decide +kernel)
theorem dX12_bound_24 : decode cX12_bound 24 = .ok (.aload_n 0, 1) := dk_42 (by decide +kernel)
theorem dX12_bound_25 : decode cX12_bound 25 = .ok (.getfield 173, 3) := dk_180 (by decide +kernel)
theorem dX12_bound_28 : decode cX12_bound 28 = .ok (.bipush 9, 2) := dk_16 (by decide +kernel)
theorem dX12_bound_30 : decode cX12_bound 30 = .ok (.aload_n 0, 1) := dk_42 (by decide +kernel)
theorem dX12_bound_31 : decode cX12_bound 31 = .ok (.getfield 659, 3) := dk_180 (by decide +kernel)
theorem dX12_bound_34 : decode cX12_bound 34 = .ok (.imul, 1) := dk_104 (by decide +kernel)
theorem dX12_bound_35 : decode cX12_bound 35 = .ok (.iaload, 1) := dk_46 (by decide +kernel)
theorem dX12_bound_36 : decode cX12_bound 36 = .ok (.iconst 1, 1) := dk_4 (by decide +kernel)
theorem dX12_bound_37 : decode cX12_bound 37 = .ok (.if_icmp .ne 39, 3) := dk_160 (by decide +kernel)
theorem dX12_bound_40 : decode cX12_bound 40 = .ok (.aload_n 0, 1) := dk_42 (by decide +kernel)
theorem dX12_bound_41 : decode cX12_bound 41 = .ok (.getfield 170, 3) := dk_180 (by decide +kernel)
theorem dX12_bound_44 : decode cX12_bound 44 = .ok (.bipush 9, 2) := dk_16 (by decide +kernel)
theorem dX12_bound_46 : decode cX12_bound 46 = .ok (.aload_n 0, 1) := dk_42 (by decide +kernel)
theorem dX12_bound_47 : decode cX12_bound 47 = .ok (.getfield 659, 3) := dk_180 (by decide +kernel)
theorem dX12_bound_50 : decode cX12_bound 50 = .ok (.imul, 1) := dk_104 (by decide +kernel)
theorem dX12_bound_51 : decode cX12_bound 51 = .ok (.iaload, 1) := dk_46 (by decide +kernel)
theorem dX12_bound_52 : decode cX12_bound 52 = .ok (.sipush 999, 3) := dk_17 (by decide +kernel)
theorem dX12_bound_55 : decode cX12_bound 55 = .ok (.if_icmp .gt 21, 3) := dk_163 (by decide +kernel)
theorem dX12_bound_58 : decode cX12_bound 58 = .ok (.aload_n 0, 1) := dk_42 (by decide +kernel)
theorem dX12_bound_59 : decode cX12_bound 59 = .ok (.getfield 170, 3) := dk_180 (by decide +kernel)
theorem dX12_bound_62 : decode cX12_bound 62 = .ok (.bipush 9, 2) := dk_16 (by decide +kernel)
theorem dX12_bound_64 : decode cX12_bound 64 = .ok (.aload_n 0, 1) := dk_42 (by decide +kernel)
theorem dX12_bound_65 : decode cX12_bound 65 = .ok (.getfield 659, 3) := dk_180 (by decide +kernel)
theorem dX12_bound_68 : decode cX12_bound 68 = .ok (.imul, 1) := dk_104 (by decide +kernel)
theorem dX12_bound_69 : decode cX12_bound 69 = .ok (.iaload, 1) := dk_46 (by decide +kernel)
theorem dX12_bound_70 : decode cX12_bound 70 = .ok (.sipush (-999), 3) := dk_17 (by decide +kernel)
theorem dX12_bound_73 : decode cX12_bound 73 = .ok (.if_icmp .ge 15, 3) := dk_162 (by decide +kernel)
theorem dX12_bound_76 : decode cX12_bound 76 = .ok (.aload_n 0, 1) := dk_42 (by decide +kernel)
theorem dX12_bound_77 : decode cX12_bound 77 = .ok (.bipush 9, 2) := dk_16 (by decide +kernel)
theorem dX12_bound_79 : decode cX12_bound 79 = .ok (.aload_n 0, 1) := dk_42 (by decide +kernel)
theorem dX12_bound_80 : decode cX12_bound 80 = .ok (.getfield 224, 3) := dk_180 (by decide +kernel)
theorem dX12_bound_83 : decode cX12_bound 83 = .ok (.iload_n 1, 1) := dk_27 (by decide +kernel)
theorem dX12_bound_84 : decode cX12_bound 84 = .ok (.iaload, 1) := dk_46 (by decide +kernel)
theorem dX12_bound_85 : decode cX12_bound 85 = .ok (.invokevirtual 518, 3) := dk_182 (by decide +kernel)
theorem dX12_bound_88 : decode cX12_bound 88 = .ok (.aload_n 0, 1) := dk_42 (by decide +kernel)
theorem dX12_bound_89 : decode cX12_bound 89 = .ok (.getfield 515, 3) := dk_180 (by decide +kernel)
theorem dX12_bound_92 : decode cX12_bound 92 = .ok (.ifCond .le 7, 3) := dk_158 (by decide +kernel)
theorem dX12_bound_95 : decode cX12_bound 95 = .ok (.iconst 0, 1) := dk_3 (by decide +kernel)
theorem dX12_bound_96 : decode cX12_bound 96 = .ok (.goto 15, 3) := dk_167 (by decide +kernel)
theorem dX12_bound_99 : decode cX12_bound 99 = .ok (.aload_n 0, 1) := dk_42 (by decide +kernel)
theorem dX12_bound_100 : decode cX12_bound 100 = .ok (.getfield 170, 3) := dk_180 (by decide +kernel)
theorem dX12_bound_103 : decode cX12_bound 103 = .ok (.bipush 9, 2) := dk_16 (by decide +kernel)
theorem dX12_bound_105 : decode cX12_bound 105 = .ok (.aload_n 0, 1) := dk_42 (by decide +kernel)
theorem dX12_bound_106 : decode cX12_bound 106 = .ok (.getfield 659, 3) := dk_180 (by decide +kernel)
theorem dX12_bound_109 : decode cX12_bound 109 = .ok (.imul, 1) := dk_104 (by decide +kernel)
theorem dX12_bound_110 : decode cX12_bound 110 = .ok (.iaload, 1) := dk_46 (by decide +kernel)
theorem dX12_bound_111 : decode cX12_bound 111 = .ok (.ireturn, 1) := dk_172 (by decide +kernel)
def wsRX12_bound : List Cond := .code yX12_bound cX12_bound 2 (some .int) :: ([.fieldLink RX12 515 "OptimaWorksModel" "stop" "I", .fieldLink RX12 659 "OptimaWorksModel" "piled" "I", .fieldLink RX12 173 "OptimaWorksModel" "under" "[I", .fieldLink RX12 224 "OptimaWorksModel" "partFirst" "[I", .fieldLink RX12 170 "OptimaWorksModel" "top" "[I"] ++ wsX120 ++ (wsV RX12 765 RX12 yX12_workNumber wsRX12_workNumber) ++ (wsV RX12 518 RX12 yX12_faultAt wsRX12_faultAt))
theorem iwsRX12_bound_in12 : ∀ w ∈ wsX120, w ∈ wsRX12_bound := fun _ h => List.mem_cons_of_mem _ (List.mem_append_left _ (List.mem_append_left _ (List.mem_append_right _ h)))
theorem gwsRX12_bound_0 : GoodIn wsRX12_bound (wsV RX12 765 RX12 yX12_workNumber wsRX12_workNumber) := goodIn_sub (fun _ h => List.mem_cons_of_mem _ (List.mem_append_left _ (List.mem_append_right _ h))) (gdV (by decide +kernel) gdwsRX12_workNumber)
theorem gwsRX12_bound_1 : GoodIn wsRX12_bound (wsV RX12 518 RX12 yX12_faultAt wsRX12_faultAt) := goodIn_sub (fun _ h => List.mem_cons_of_mem _ (List.mem_append_right _ h)) (gdV (by decide +kernel) gdwsRX12_faultAt)
theorem gdwsRX12_bound : wsRX12_bound.all goodWord = true := gdC rfl (gdA (gdA (gdA (by decide +kernel : ([.fieldLink RX12 515 "OptimaWorksModel" "stop" "I", .fieldLink RX12 659 "OptimaWorksModel" "piled" "I", .fieldLink RX12 173 "OptimaWorksModel" "under" "[I", .fieldLink RX12 224 "OptimaWorksModel" "partFirst" "[I", .fieldLink RX12 170 "OptimaWorksModel" "top" "[I"] : List Cond).all goodWord = true) gdwsX120) (gdV (by decide +kernel) gdwsRX12_workNumber)) (gdV (by decide +kernel) gdwsRX12_faultAt))
theorem hm_r_X12_bound_0 : (.fieldLink RX12 515 "OptimaWorksModel" "stop" "I" : Cond) ∈ wsRX12_bound := by decide +kernel
theorem hm_r_X12_bound_1 : (.fieldLink RX12 659 "OptimaWorksModel" "piled" "I" : Cond) ∈ wsRX12_bound := by decide +kernel
theorem hm_r_X12_bound_2 : (.fieldLink RX12 224 "OptimaWorksModel" "partFirst" "[I" : Cond) ∈ wsRX12_bound := by decide +kernel
theorem hm_r_X12_bound_3 : (.fieldLink RX12 170 "OptimaWorksModel" "top" "[I" : Cond) ∈ wsRX12_bound := by decide +kernel
set_option maxHeartbeats 4000000 in
set_option maxRecDepth 100000 in
/-- bound(k) -/
theorem r_X12_bound (l : Launch) (dC : Nat → ClassId) (dI : Nat → Nat → Nat) (a : Nat → Nat) (k : Nat → ClassId) (h0 : Nat) (vi : Nat → Int32) (vj : Nat → Int64) (vF : Nat → Nat → Int32) (vG : Nat → Nat → Int64) (nF : Nat → Nat → Int32) (V : Nat → Prop) (wt : Nat → Nat) (dp : Nat → Nat) (pd : Nat → Nat) (nN : Nat) (hN : Nat) (se : Nat) (kP : Nat) (hse44 : se ≤ 44) (hSe : SeO (vF 16) (vF 17) se) (hkP : kP < 200) (hpn : vF 66 kP = nI nN) (hlin : (nF 29 nN).toInt ≤ 9) (hVo : VoK nF V wt dp pd se) (hVn : V nN) (hdp : dp nN ≤ 4200) (hpp : hN + pd nN ≤ 80) (hn17 : vF 17 = nF 17) (hn18 : vF 18 = nF 18) (hn19 : vF 19 = nF 19) (hn20 : vF 20 = nF 20) (hn21 : vF 21 = nF 21) (hn24 : vF 24 = nF 24) (hn25 : vF 25 = nF 25) (hn26 : vF 26 = nF 26) (hn27 : vF 27 = nF 27) (hn29 : vF 29 = nF 29) (hn30 : vF 30 = nF 30) (hn31 : vF 31 = nF 31) (hn32 : vF 32 = nF 32) (hn36 : vF 36 = nF 36) (hn37 : vF 37 = nF 37) (hn38 : vF 38 = nF 38) (hEn : EnO (vF 51)) (hPt : PtO (vF 22) (vF 23) (nuF nF)) (hpl : vi 81 = nI hN) (hRw : ∀ v9, v9 < hN → RowU (vF 49) (vF 50) v9) (hst0 : 0 ≤ (vi 21).toInt) (hst1 : (vi 21).toInt ≤ 0) (sz : Nat) : Met l yX12_bound wsRX12_bound ({ frames := 7, cells := 0, slots := 0, locals := 183 }) (va_Pc [.ref h0, .int (nI kP)] (fun U => U.heap.size = sz ∧ va_P (dC, dI) vwCl (WR a k h0 vi vj vF vG) U.heap ∧ va_K (dC, dI) vwCl (tX12 k) U ∧ va_D (fun _ => True) (WR a k h0 vi vj vF vG))) (va_Qi (fun (r : Int32) (u : (Nat → Int32) × (Nat → Int32) × (Nat → Int32) × (Nat → Int32) × (Nat → Int32) × (Nat → Int32) × (Nat) × (Nat) × (Int32) × (Int32) × (Int32) × (Int32)) => (∀ v9, v9 < (u.2.2.2.2.2.2.2.1) → RowU (u.1) (u.2.1) v9) ∧ (EnO (u.2.2.1)) ∧ (0 ≤ ((u.2.2.2.2.2.2.2.2.1)).toInt) ∧ (0 < ((u.2.2.2.2.2.2.2.2.1)).toInt ∨ ((u.2.2.2.2.2.2.2.1) = hN ∧ -999 ≤ (r).toInt ∧ (r).toInt ≤ 999))) (fun (u : (Nat → Int32) × (Nat → Int32) × (Nat → Int32) × (Nat → Int32) × (Nat → Int32) × (Nat → Int32) × (Nat) × (Nat) × (Int32) × (Int32) × (Int32) × (Int32)) t => va_P (dC, dI) vwCl (WR a k h0 (fT (fT (fT (fT (fT (fT vi 89 (nI (u.2.2.2.2.2.2.1))) 81 (nI (u.2.2.2.2.2.2.2.1))) 21 (u.2.2.2.2.2.2.2.2.1)) 22 (u.2.2.2.2.2.2.2.2.2.1)) 82 (u.2.2.2.2.2.2.2.2.2.2.1)) 84 (u.2.2.2.2.2.2.2.2.2.2.2)) vj (fT (fT (fT (fT (fT (fT vF 52 (u.2.2.2.1)) 53 (u.2.2.2.2.1)) 49 (u.1)) 50 (u.2.1)) 51 (u.2.2.1)) 54 (u.2.2.2.2.2.1)) vG) t.heap ∧ va_D (va_A (WR a k h0 vi vj vF vG) sz) (WR a k h0 (fT (fT (fT (fT (fT (fT vi 89 (nI (u.2.2.2.2.2.2.1))) 81 (nI (u.2.2.2.2.2.2.2.1))) 21 (u.2.2.2.2.2.2.2.2.1)) 22 (u.2.2.2.2.2.2.2.2.2.1)) 82 (u.2.2.2.2.2.2.2.2.2.2.1)) 84 (u.2.2.2.2.2.2.2.2.2.2.2)) vj (fT (fT (fT (fT (fT (fT vF 52 (u.2.2.2.1)) 53 (u.2.2.2.2.1)) 49 (u.1)) 50 (u.2.1)) 51 (u.2.2.1)) 54 (u.2.2.2.2.2.1)) vG)) (va_A (WR a k h0 vi vj vF vG) sz)) 0 0 (va_A (WR a k h0 vi vj vF vG) sz) := by
  refine Met.ofW (cc := cX12_bound) (maxL := 2) (ret := (some .int)) (by decide) rfl ?_
  intro p e s m args below meth c s₁ B hml hv
  obtain ⟨rfl, hsz, hP, hK, hD0⟩ := hv
  have hx := B.exec
  have hb := B.bytes
  have hr := B.returns
  have hts := atoms_spec (ws := wsRX12_bound) B.pre
  have hown : s.vm.findClass RX12 = some m.cls := findClass_of_methodNamed B.named
  have hlocks := B.notSynchronized
  subst hsz
  have hD := hD0.self (sz := s.heap.size)
  generalize hAe : va_A (WR a k h0 vi vj vF vG) s.heap.size = A at hD ⊢
  have hA : ∀ q : Nat, s.heap.size ≤ q → A q := fun q h => by rw [← hAe]; exact Or.inr h
  have hS : va_S A s.heap s.heap [] := va_S.rf
  have hl := lv_entry ([.ref h0, .int (nI kP)]) (n := 2) (Nat.le_of_ble_eq_true rfl)
  rw [lg_entry_eq]
  generalize (lg_sl ([.ref h0, .int (nI kP)]) ++ List.replicate (2 - (lg_sl ([.ref h0, .int (nI kP)])).length) Slot.unset).toArray = ls at hl ⊢
  have hl : lv_has ls 2 [(0, .ref h0), (1, .int (nI kP))] := hl
  refine lv_aload_n hx hb dX12_bound_0 rfl (lv_at hl 0 rfl) ?_
  refine lv_iload_n hx hb dX12_bound_1 rfl (lv_at hl 1 rfl) ?_
  have hFc := allFree hD hS hA
  refine va_callv (va_runV (As := [.int (nI kP)]) (rest := []) ⟨hx, hb, hml, hown, hts⟩ (r_X12_workNumber l dC dI a k h0 vi vj vF vG nF V wt dp pd nN hN se kP (by first | with_reducible assumption | decide | omega | rfl | assumption) (by first | with_reducible assumption | decide | omega | rfl | assumption) (by first | with_reducible assumption | decide | omega | rfl | assumption) (by first | with_reducible assumption | decide | omega | rfl | assumption) (by first | with_reducible assumption | decide | omega | rfl | assumption) (by first | with_reducible assumption | decide | omega | rfl | assumption) (by first | with_reducible assumption | decide | omega | rfl | assumption) (by first | with_reducible assumption | decide | omega | rfl | assumption) (by first | with_reducible assumption | decide | omega | rfl | assumption) (by first | with_reducible assumption | decide | omega | rfl | assumption) (by first | with_reducible assumption | decide | omega | rfl | assumption) (by first | with_reducible assumption | decide | omega | rfl | assumption) (by first | with_reducible assumption | decide | omega | rfl | assumption) (by first | with_reducible assumption | decide | omega | rfl | assumption) (by first | with_reducible assumption | decide | omega | rfl | assumption) (by first | with_reducible assumption | decide | omega | rfl | assumption) (by first | with_reducible assumption | decide | omega | rfl | assumption) (by first | with_reducible assumption | decide | omega | rfl | assumption) (by first | with_reducible assumption | decide | omega | rfl | assumption) (by first | with_reducible assumption | decide | omega | rfl | assumption) (by first | with_reducible assumption | decide | omega | rfl | assumption) (by first | with_reducible assumption | decide | omega | rfl | assumption) (by first | with_reducible assumption | decide | omega | rfl | assumption) (by first | with_reducible assumption | decide | omega | rfl | assumption) (by first | with_reducible assumption | decide | omega | rfl | assumption) (by first | with_reducible assumption | decide | omega | rfl | assumption) (by first | with_reducible assumption | decide | omega | rfl | assumption) hpl (by first | with_reducible assumption | decide | omega | rfl | assumption) (by first | with_reducible assumption | decide | omega | rfl | assumption) (by first | with_reducible assumption | decide | omega | rfl | assumption) s.heap.size) (cwV 1 hts gwsRX12_bound_0 rfl rfl rfl hd_yX12_workNumber_RX12 (by decide +kernel)) (fz_pre (va_recv hK hP (ci := 12) (q0 := 0) rfl rfl) hP hK hD) rfl rfl hl.1 rfl (lv_room (Nat.le_of_ble_eq_true rfl)) dX12_bound_2 (by decide +kernel)) hS (fun q _ h => hFc q h) hFc (fun u t9_ H locs ht hvm hw9 hB9 hz1 hk1 hS => ?_)
  revert u hw9 hB9
  refine fz_p12 ?_
  intro g492 g502 g512 g522 g532 g542 fr22 pq22 s22 p22 sp22 tv22 hw9 hB9
  try dsimp only at hw9 hB9
  have hP : va_P (dC, dI) vwCl (WR a k h0 (fT (fT (fT (fT (fT (fT vi 89 (nI fr22)) 81 (nI pq22)) 21 s22) 22 p22) 82 sp22) 84 tv22) vj (fT (fT (fT (fT (fT (fT vF 52 g522) 53 g532) 49 g492) 50 g502) 51 g512) 54 g542) vG) H := fz_P ht hB9.1
  have hD := fz_sd hP (hB9.2.weaken (fun _ q _ h => hFc q.1 h)) rfl
  revert hw9
  refine fz_a4 ?_
  intro f2_0 f2_1 f2_2 f2_3
  refine lv_aload_n hx hb dX12_bound_5 rfl (lv_at hl 0 rfl) ?_
  refine va_get (D := (dC, dI)) (ci := 12) (v := .int s22) (C := RX12) (T := TX12) (N := 163) (fs := fM (vS a (fT (fT (fT (fT (fT (fT vi 89 (nI fr22)) 81 (nI pq22)) 21 s22) 22 p22) 82 sp22) 84 tv22) vj)) hx hb hts iwsRX12_bound_in12 hown hK hP 0 rfl rfl 21 (by decide) (hts _ hm_r_X12_bound_0) (fun _ h9 => h9) rfl dX12_bound_6 ?_
  refine lv_if_le (tgt := 14) hx hb dX12_bound_9 (by decide) (fun c_9 => ?_) (fun c_9 => ?_)
  · have t_9 : (s22).toInt ≤ 0 := toI_le c_9 rfl (by decide)
    have hpq2 : pq22 = hN + 1 := f2_3.resolve_left (by omega)
    refine lv_aload_n hx hb dX12_bound_14 rfl (lv_at hl 0 rfl) ?_
    refine lv_dup hx hb dX12_bound_15 rfl ?_
    refine va_get (D := (dC, dI)) (ci := 12) (v := .int (nI pq22)) (C := RX12) (T := TX12) (N := 163) (fs := fM (vS a (fT (fT (fT (fT (fT (fT vi 89 (nI fr22)) 81 (nI pq22)) 21 s22) 22 p22) 82 sp22) 84 tv22) vj)) hx hb hts iwsRX12_bound_in12 hown hK hP 0 rfl rfl 81 (by decide) (hts _ hm_r_X12_bound_1) (fun _ h9 => h9) rfl dX12_bound_16 ?_
    refine lv_iconst (v := 1) hx hb dX12_bound_19 (by decide) ?_
    refine lv_isub hx hb dX12_bound_20 ?_
    refine lv_topi (fun y1 hy1 => ?_)
    obtain rfl : (nI (pq22 - 1)) = y1 := (hy1.trans (pk_sub (a := pq22) (b := 1) (by omega))).symm
    refine va_put (D := (dC, dI)) (ci := 12) (v := .int (nI (pq22 - 1))) (ty := .int) (C := RX12) (T := TX12) (N := 163) (fs := fM (vS a (fT (fT (fT (fT (fT (fT vi 89 (nI fr22)) 81 (nI pq22)) 21 s22) 22 p22) 82 sp22) 84 tv22) vj)) hx hb hts iwsRX12_bound_in12 tyX12 tyX12_ok nmX12 hown hK hP hD hS 0 rfl rfl 81 (by decide) (hts _ hm_r_X12_bound_1) (fun _ h9 => h9) rfl (by decide +kernel) rfl rfl (Nat.le_of_ble_eq_true rfl) dX12_bound_21 (fun H locs hP hD hS => ?_)
    have e9 : fT (fT (fT (fT (fT (fT vi 89 (nI fr22)) 81 (nI (pq22 - 1))) 21 s22) 22 p22) 82 sp22) 84 tv22 = fT (fT (fT (fT (fT (fT (fT vi 89 (nI fr22)) 81 (nI pq22)) 21 s22) 22 p22) 82 sp22) 84 tv22) 81 (nI (pq22 - 1)) := ((fT_sw _ _ _ (Nat.ne_of_beq_eq_false rfl)).trans (congrArg (fun g9 => fT g9 84 tv22) ((fT_sw _ _ _ (Nat.ne_of_beq_eq_false rfl)).trans (congrArg (fun g9 => fT g9 82 sp22) ((fT_sw _ _ _ (Nat.ne_of_beq_eq_false rfl)).trans (congrArg (fun g9 => fT g9 22 p22) ((fT_sw _ _ _ (Nat.ne_of_beq_eq_false rfl)).trans (congrArg (fun g9 => fT g9 21 s22) (fT_sm _ _ _ _))))))))).symm
    have hP := wr_Pi e9 (fz_w (WR_i 81 _ rfl) hP)
    have hD := wr_Di e9 (fz_wD (WR_i 81 _ rfl) hD)
    clear e9
    refine lv_aload_n hx hb dX12_bound_24 rfl (lv_at hl 0 rfl) ?_
    refine va_get (D := (dC, dI)) (ci := 12) (v := .ref (a 50)) (C := RX12) (T := TX12) (N := 163) (fs := fM (vS a (fT (fT (fT (fT (fT (fT vi 89 (nI fr22)) 81 (nI (pq22 - 1))) 21 s22) 22 p22) 82 sp22) 84 tv22) vj)) hx hb hts iwsRX12_bound_in12 hown hK hP 0 rfl rfl 79 (by decide) (hts (.fieldLink RX12 173 "OptimaWorksModel" "under" "[I") (by decide +kernel)) (fun _ h9 => h9) rfl dX12_bound_25 ?_
    refine lv_bipush (v := 9) hx hb dX12_bound_28 (by decide) ?_
    refine lv_aload_n hx hb dX12_bound_30 rfl (lv_at hl 0 rfl) ?_
    refine va_get (D := (dC, dI)) (ci := 12) (v := .int (nI (pq22 - 1))) (C := RX12) (T := TX12) (N := 163) (fs := fM (vS a (fT (fT (fT (fT (fT (fT vi 89 (nI fr22)) 81 (nI (pq22 - 1))) 21 s22) 22 p22) 82 sp22) 84 tv22) vj)) hx hb hts iwsRX12_bound_in12 hown hK hP 0 rfl rfl 81 (by decide) (hts _ hm_r_X12_bound_1) (fun _ h9 => h9) rfl dX12_bound_31 ?_
    refine lv_imul hx hb dX12_bound_34 ?_
    refine lv_topi (fun y2 hy2 => ?_)
    obtain rfl : (nI (9 * (pq22 - 1))) = y2 := (hy2.trans (pk_mul 9 (pq22 - 1))).symm
    refine va_iald (cA := k 50) (n := 900) (f := g502) hx hb hK hP 51 50 (WR_get 50 (by decide)) (TR_get 50 (by decide)) (vp_in_nI (show (9 * (pq22 - 1)) < 900 by omega) (by omega)) dX12_bound_35 ?_
    refine lv_topi (fun y3 hy3 => ?_)
    obtain rfl : (g502 (9 * (pq22 - 1))) = y3 := (hy3.trans (by rw [nI_clamp (by omega)])).symm
    refine lv_iconst (v := 1) hx hb dX12_bound_36 (by decide) ?_
    refine lv_icmp_ne (tgt := 76) hx hb dX12_bound_37 (by decide) (fun c_37 => ?_) (fun c_37 => ?_)
    · have t_37 : ((g502 (9 * (pq22 - 1)))).toInt ≠ 1 := toI_ne c_37 rfl (by decide)
      refine lv_aload_n hx hb dX12_bound_76 rfl (lv_at hl 0 rfl) ?_
      refine lv_bipush (v := 9) hx hb dX12_bound_77 (by decide) ?_
      refine lv_aload_n hx hb dX12_bound_79 rfl (lv_at hl 0 rfl) ?_
      refine va_get (D := (dC, dI)) (ci := 12) (v := .ref (a 67)) (C := RX12) (T := TX12) (N := 163) (fs := fM (vS a (fT (fT (fT (fT (fT (fT vi 89 (nI fr22)) 81 (nI (pq22 - 1))) 21 s22) 22 p22) 82 sp22) 84 tv22) vj)) hx hb hts iwsRX12_bound_in12 hown hK hP 0 rfl rfl 107 (by decide) (hts _ hm_r_X12_bound_2) (fun _ h9 => h9) rfl dX12_bound_80 ?_
      refine lv_iload_n hx hb dX12_bound_83 rfl (lv_at hl 1 rfl) ?_
      refine va_iald (cA := k 67) (n := 200) (f := (vF 67)) hx hb hK hP 68 67 (WR_get 67 (by decide)) (TR_get 67 (by decide)) (vp_in_nI (show kP < 200 by omega) (by omega)) dX12_bound_84 ?_
      refine lv_topi (fun y4 hy4 => ?_)
      obtain rfl : ((vF 67) kP) = y4 := (hy4.trans (by rw [nI_clamp (by omega)])).symm
      have hFc := allFree hD hS hA
      refine va_callv (va_runV (As := [.int 9, .int ((vF 67) kP)]) (rest := []) ⟨hx, hb, hml, hown, hts⟩ (r_X12_faultAt l dC dI a k h0 (fT (fT (fT (fT (fT (fT vi 89 (nI fr22)) 81 (nI (pq22 - 1))) 21 s22) 22 p22) 82 sp22) 84 tv22) vj (fT (fT (fT (fT (fT (fT vF 52 g522) 53 g532) 49 g492) 50 g502) 51 g512) 54 g542) vG 9 ((vF 67) kP) (by first | with_reducible assumption | decide | omega | rfl | assumption) H.size) (cwV 2 hts gwsRX12_bound_1 rfl rfl rfl hd_yX12_faultAt_RX12 (by decide +kernel)) (fz_pre (va_recv hK hP (ci := 12) (q0 := 0) rfl rfl) hP hK hD) rfl rfl hl.1 rfl (lv_room (Nat.le_of_ble_eq_true rfl)) dX12_bound_85 (by decide +kernel)) hS (fun q _ h => hFc q h) hFc (fun u t9_ H locs ht hvm hw9 hB9 hz1 hk1 hS => ?_)
      revert u hw9 hB9
      refine fz_p2 ?_
      intro s285 p285 hw9 hB9
      try dsimp only at hw9 hB9
      have e9i : fT (fT (fT (fT (fT (fT vi 89 (nI fr22)) 81 (nI (pq22 - 1))) 21 s285) 22 p285) 82 sp22) 84 tv22 = fT (fT (fT (fT (fT (fT (fT (fT vi 89 (nI fr22)) 81 (nI (pq22 - 1))) 21 s22) 22 p22) 82 sp22) 84 tv22) 21 s285) 22 p285 := Eq.symm (Eq.trans (congrArg (fun g9 => fT g9 22 p285) (up_3 rfl)) (up_2 rfl))
      have hP := wr_Pi e9i (fz_P ht hB9.1)
      have hD := wr_Di e9i (hB9.2.weaken (fun _ q _ h => hFc q.1 h))
      clear e9i
      revert hw9
      refine fz_a2 ?_
      intro f85_0 f85_1
      have f85_0 : (0 < s22.toInt ∧ s285 = s22 ∧ p285 = p22) ∨ (¬ 0 < s22.toInt ∧ s285 = 9 ∧ p285 = ((vF 67) kP)) := f85_0
      refine lv_aload_n hx hb dX12_bound_88 rfl (lv_at hl 0 rfl) ?_
      refine va_get (D := (dC, dI)) (ci := 12) (v := .int s285) (C := RX12) (T := TX12) (N := 163) (fs := fM (vS a (fT (fT (fT (fT (fT (fT vi 89 (nI fr22)) 81 (nI (pq22 - 1))) 21 s285) 22 p285) 82 sp22) 84 tv22) vj)) hx hb hts iwsRX12_bound_in12 hown hK hP 0 rfl rfl 21 (by decide) (hts _ hm_r_X12_bound_0) (fun _ h9 => h9) rfl dX12_bound_89 ?_
      refine lv_if_le (tgt := 99) hx hb dX12_bound_92 (by decide) (fun c_92 => ?_) (fun c_92 => ?_)
      · have t_92 : (s285).toInt ≤ 0 := toI_le c_92 rfl (by decide)
        refine lv_aload_n hx hb dX12_bound_99 rfl (lv_at hl 0 rfl) ?_
        refine va_get (D := (dC, dI)) (ci := 12) (v := .ref (a 49)) (C := RX12) (T := TX12) (N := 163) (fs := fM (vS a (fT (fT (fT (fT (fT (fT vi 89 (nI fr22)) 81 (nI (pq22 - 1))) 21 s285) 22 p285) 82 sp22) 84 tv22) vj)) hx hb hts iwsRX12_bound_in12 hown hK hP 0 rfl rfl 78 (by decide) (hts _ hm_r_X12_bound_3) (fun _ h9 => h9) rfl dX12_bound_100 ?_
        refine lv_bipush (v := 9) hx hb dX12_bound_103 (by decide) ?_
        refine lv_aload_n hx hb dX12_bound_105 rfl (lv_at hl 0 rfl) ?_
        refine va_get (D := (dC, dI)) (ci := 12) (v := .int (nI (pq22 - 1))) (C := RX12) (T := TX12) (N := 163) (fs := fM (vS a (fT (fT (fT (fT (fT (fT vi 89 (nI fr22)) 81 (nI (pq22 - 1))) 21 s285) 22 p285) 82 sp22) 84 tv22) vj)) hx hb hts iwsRX12_bound_in12 hown hK hP 0 rfl rfl 81 (by decide) (hts _ hm_r_X12_bound_1) (fun _ h9 => h9) rfl dX12_bound_106 ?_
        refine lv_imul hx hb dX12_bound_109 ?_
        refine lv_topi (fun y5 hy5 => ?_)
        obtain rfl : (nI (9 * (pq22 - 1))) = y5 := (hy5.trans (pk_mul 9 (pq22 - 1))).symm
        refine va_iald (cA := k 49) (n := 900) (f := g492) hx hb hK hP 50 49 (WR_get 49 (by decide)) (TR_get 49 (by decide)) (vp_in_nI (show (9 * (pq22 - 1)) < 900 by omega) (by omega)) dX12_bound_110 ?_
        refine lv_topi (fun y6 hy6 => ?_)
        obtain rfl : (g492 (9 * (pq22 - 1))) = y6 := (hy6.trans (by rw [nI_clamp (by omega)])).symm
        refine W.widen (k := 0) (n := 0) (by decide +kernel) (by decide +kernel) ?_
        exact W.iret (v := (g492 (9 * (pq22 - 1)))) hx hb hr (fun t9_ ht hW => ⟨⟨(g492 (9 * (pq22 - 1))), (g492, g502, g512, g522, g532, g542, fr22, (pq22 - 1), s285, p285, sp22, tv22), rfl, by (try dsimp only); exact ⟨fun v9 h9 => f2_0 v9 (by omega), f2_1, by omega, Or.inr ⟨by omega, by omega⟩⟩, by rw [ht]; exact hP, hD⟩, hS.F ht⟩) hS.2.2 dX12_bound_111
      · have t_92 : ¬ (s285).toInt ≤ 0 := toI_nle c_92 rfl (by decide)
        refine lv_iconst (v := 0) hx hb dX12_bound_95 (by decide) ?_
        refine lv_goto (tgt := 111) hx hb dX12_bound_96 (by decide) ?_
        refine W.widen (k := 0) (n := 0) (by decide +kernel) (by decide +kernel) ?_
        exact W.iret (v := 0) hx hb hr (fun t9_ ht hW => ⟨⟨0, (g492, g502, g512, g522, g532, g542, fr22, (pq22 - 1), s285, p285, sp22, tv22), rfl, by (try dsimp only); exact ⟨fun v9 h9 => f2_0 v9 (by omega), f2_1, by omega, Or.inl (by omega)⟩, by rw [ht]; exact hP, hD⟩, hS.F ht⟩) hS.2.2 dX12_bound_111
    · have t_37 : ((g502 (9 * (pq22 - 1)))).toInt = 1 := toI_nne c_37 rfl (by decide)
      refine lv_aload_n hx hb dX12_bound_40 rfl (lv_at hl 0 rfl) ?_
      refine va_get (D := (dC, dI)) (ci := 12) (v := .ref (a 49)) (C := RX12) (T := TX12) (N := 163) (fs := fM (vS a (fT (fT (fT (fT (fT (fT vi 89 (nI fr22)) 81 (nI (pq22 - 1))) 21 s22) 22 p22) 82 sp22) 84 tv22) vj)) hx hb hts iwsRX12_bound_in12 hown hK hP 0 rfl rfl 78 (by decide) (hts _ hm_r_X12_bound_3) (fun _ h9 => h9) rfl dX12_bound_41 ?_
      refine lv_bipush (v := 9) hx hb dX12_bound_44 (by decide) ?_
      refine lv_aload_n hx hb dX12_bound_46 rfl (lv_at hl 0 rfl) ?_
      refine va_get (D := (dC, dI)) (ci := 12) (v := .int (nI (pq22 - 1))) (C := RX12) (T := TX12) (N := 163) (fs := fM (vS a (fT (fT (fT (fT (fT (fT vi 89 (nI fr22)) 81 (nI (pq22 - 1))) 21 s22) 22 p22) 82 sp22) 84 tv22) vj)) hx hb hts iwsRX12_bound_in12 hown hK hP 0 rfl rfl 81 (by decide) (hts _ hm_r_X12_bound_1) (fun _ h9 => h9) rfl dX12_bound_47 ?_
      refine lv_imul hx hb dX12_bound_50 ?_
      refine lv_topi (fun y7 hy7 => ?_)
      obtain rfl : (nI (9 * (pq22 - 1))) = y7 := (hy7.trans (pk_mul 9 (pq22 - 1))).symm
      refine va_iald (cA := k 49) (n := 900) (f := g492) hx hb hK hP 50 49 (WR_get 49 (by decide)) (TR_get 49 (by decide)) (vp_in_nI (show (9 * (pq22 - 1)) < 900 by omega) (by omega)) dX12_bound_51 ?_
      refine lv_topi (fun y8 hy8 => ?_)
      obtain rfl : (g492 (9 * (pq22 - 1))) = y8 := (hy8.trans (by rw [nI_clamp (by omega)])).symm
      refine lv_sipush (v := 999) hx hb dX12_bound_52 (by decide) ?_
      refine lv_icmp_gt (tgt := 76) hx hb dX12_bound_55 (by decide) (fun c_55 => ?_) (fun c_55 => ?_)
      · have t_55 : ((g492 (9 * (pq22 - 1)))).toInt > 999 := toI_gt c_55 rfl (by decide)
        refine lv_aload_n hx hb dX12_bound_76 rfl (lv_at hl 0 rfl) ?_
        refine lv_bipush (v := 9) hx hb dX12_bound_77 (by decide) ?_
        refine lv_aload_n hx hb dX12_bound_79 rfl (lv_at hl 0 rfl) ?_
        refine va_get (D := (dC, dI)) (ci := 12) (v := .ref (a 67)) (C := RX12) (T := TX12) (N := 163) (fs := fM (vS a (fT (fT (fT (fT (fT (fT vi 89 (nI fr22)) 81 (nI (pq22 - 1))) 21 s22) 22 p22) 82 sp22) 84 tv22) vj)) hx hb hts iwsRX12_bound_in12 hown hK hP 0 rfl rfl 107 (by decide) (hts _ hm_r_X12_bound_2) (fun _ h9 => h9) rfl dX12_bound_80 ?_
        refine lv_iload_n hx hb dX12_bound_83 rfl (lv_at hl 1 rfl) ?_
        refine va_iald (cA := k 67) (n := 200) (f := (vF 67)) hx hb hK hP 68 67 (WR_get 67 (by decide)) (TR_get 67 (by decide)) (vp_in_nI (show kP < 200 by omega) (by omega)) dX12_bound_84 ?_
        refine lv_topi (fun y9 hy9 => ?_)
        obtain rfl : ((vF 67) kP) = y9 := (hy9.trans (by rw [nI_clamp (by omega)])).symm
        have hFc := allFree hD hS hA
        refine va_callv (va_runV (As := [.int 9, .int ((vF 67) kP)]) (rest := []) ⟨hx, hb, hml, hown, hts⟩ (r_X12_faultAt l dC dI a k h0 (fT (fT (fT (fT (fT (fT vi 89 (nI fr22)) 81 (nI (pq22 - 1))) 21 s22) 22 p22) 82 sp22) 84 tv22) vj (fT (fT (fT (fT (fT (fT vF 52 g522) 53 g532) 49 g492) 50 g502) 51 g512) 54 g542) vG 9 ((vF 67) kP) (by first | with_reducible assumption | decide | omega | rfl | assumption) H.size) (cwV 2 hts gwsRX12_bound_1 rfl rfl rfl hd_yX12_faultAt_RX12 (by decide +kernel)) (fz_pre (va_recv hK hP (ci := 12) (q0 := 0) rfl rfl) hP hK hD) rfl rfl hl.1 rfl (lv_room (Nat.le_of_ble_eq_true rfl)) dX12_bound_85 (by decide +kernel)) hS (fun q _ h => hFc q h) hFc (fun u t9_ H locs ht hvm hw9 hB9 hz1 hk1 hS => ?_)
        revert u hw9 hB9
        refine fz_p2 ?_
        intro s285_1 p285_1 hw9 hB9
        try dsimp only at hw9 hB9
        have e9i : fT (fT (fT (fT (fT (fT vi 89 (nI fr22)) 81 (nI (pq22 - 1))) 21 s285_1) 22 p285_1) 82 sp22) 84 tv22 = fT (fT (fT (fT (fT (fT (fT (fT vi 89 (nI fr22)) 81 (nI (pq22 - 1))) 21 s22) 22 p22) 82 sp22) 84 tv22) 21 s285_1) 22 p285_1 := Eq.symm (Eq.trans (congrArg (fun g9 => fT g9 22 p285_1) (up_3 rfl)) (up_2 rfl))
        have hP := wr_Pi e9i (fz_P ht hB9.1)
        have hD := wr_Di e9i (hB9.2.weaken (fun _ q _ h => hFc q.1 h))
        clear e9i
        revert hw9
        refine fz_a2 ?_
        intro f85_1_0 f85_1_1
        have f85_1_0 : (0 < s22.toInt ∧ s285_1 = s22 ∧ p285_1 = p22) ∨ (¬ 0 < s22.toInt ∧ s285_1 = 9 ∧ p285_1 = ((vF 67) kP)) := f85_1_0
        refine lv_aload_n hx hb dX12_bound_88 rfl (lv_at hl 0 rfl) ?_
        refine va_get (D := (dC, dI)) (ci := 12) (v := .int s285_1) (C := RX12) (T := TX12) (N := 163) (fs := fM (vS a (fT (fT (fT (fT (fT (fT vi 89 (nI fr22)) 81 (nI (pq22 - 1))) 21 s285_1) 22 p285_1) 82 sp22) 84 tv22) vj)) hx hb hts iwsRX12_bound_in12 hown hK hP 0 rfl rfl 21 (by decide) (hts _ hm_r_X12_bound_0) (fun _ h9 => h9) rfl dX12_bound_89 ?_
        refine lv_if_le (tgt := 99) hx hb dX12_bound_92 (by decide) (fun c_92 => ?_) (fun c_92 => ?_)
        · have t_92 : (s285_1).toInt ≤ 0 := toI_le c_92 rfl (by decide)
          refine lv_aload_n hx hb dX12_bound_99 rfl (lv_at hl 0 rfl) ?_
          refine va_get (D := (dC, dI)) (ci := 12) (v := .ref (a 49)) (C := RX12) (T := TX12) (N := 163) (fs := fM (vS a (fT (fT (fT (fT (fT (fT vi 89 (nI fr22)) 81 (nI (pq22 - 1))) 21 s285_1) 22 p285_1) 82 sp22) 84 tv22) vj)) hx hb hts iwsRX12_bound_in12 hown hK hP 0 rfl rfl 78 (by decide) (hts _ hm_r_X12_bound_3) (fun _ h9 => h9) rfl dX12_bound_100 ?_
          refine lv_bipush (v := 9) hx hb dX12_bound_103 (by decide) ?_
          refine lv_aload_n hx hb dX12_bound_105 rfl (lv_at hl 0 rfl) ?_
          refine va_get (D := (dC, dI)) (ci := 12) (v := .int (nI (pq22 - 1))) (C := RX12) (T := TX12) (N := 163) (fs := fM (vS a (fT (fT (fT (fT (fT (fT vi 89 (nI fr22)) 81 (nI (pq22 - 1))) 21 s285_1) 22 p285_1) 82 sp22) 84 tv22) vj)) hx hb hts iwsRX12_bound_in12 hown hK hP 0 rfl rfl 81 (by decide) (hts _ hm_r_X12_bound_1) (fun _ h9 => h9) rfl dX12_bound_106 ?_
          refine lv_imul hx hb dX12_bound_109 ?_
          refine lv_topi (fun y10 hy10 => ?_)
          obtain rfl : (nI (9 * (pq22 - 1))) = y10 := (hy10.trans (pk_mul 9 (pq22 - 1))).symm
          refine va_iald (cA := k 49) (n := 900) (f := g492) hx hb hK hP 50 49 (WR_get 49 (by decide)) (TR_get 49 (by decide)) (vp_in_nI (show (9 * (pq22 - 1)) < 900 by omega) (by omega)) dX12_bound_110 ?_
          refine lv_topi (fun y11 hy11 => ?_)
          obtain rfl : (g492 (9 * (pq22 - 1))) = y11 := (hy11.trans (by rw [nI_clamp (by omega)])).symm
          refine W.widen (k := 0) (n := 0) (by decide +kernel) (by decide +kernel) ?_
          exact W.iret (v := (g492 (9 * (pq22 - 1)))) hx hb hr (fun t9_ ht hW => ⟨⟨(g492 (9 * (pq22 - 1))), (g492, g502, g512, g522, g532, g542, fr22, (pq22 - 1), s285_1, p285_1, sp22, tv22), rfl, by (try dsimp only); exact ⟨fun v9 h9 => f2_0 v9 (by omega), f2_1, by omega, Or.inr ⟨by omega, by omega⟩⟩, by rw [ht]; exact hP, hD⟩, hS.F ht⟩) hS.2.2 dX12_bound_111
        · have t_92 : ¬ (s285_1).toInt ≤ 0 := toI_nle c_92 rfl (by decide)
          refine lv_iconst (v := 0) hx hb dX12_bound_95 (by decide) ?_
          refine lv_goto (tgt := 111) hx hb dX12_bound_96 (by decide) ?_
          refine W.widen (k := 0) (n := 0) (by decide +kernel) (by decide +kernel) ?_
          exact W.iret (v := 0) hx hb hr (fun t9_ ht hW => ⟨⟨0, (g492, g502, g512, g522, g532, g542, fr22, (pq22 - 1), s285_1, p285_1, sp22, tv22), rfl, by (try dsimp only); exact ⟨fun v9 h9 => f2_0 v9 (by omega), f2_1, by omega, Or.inl (by omega)⟩, by rw [ht]; exact hP, hD⟩, hS.F ht⟩) hS.2.2 dX12_bound_111
      · have t_55 : ¬ ((g492 (9 * (pq22 - 1)))).toInt > 999 := toI_ngt c_55 rfl (by decide)
        refine lv_aload_n hx hb dX12_bound_58 rfl (lv_at hl 0 rfl) ?_
        refine va_get (D := (dC, dI)) (ci := 12) (v := .ref (a 49)) (C := RX12) (T := TX12) (N := 163) (fs := fM (vS a (fT (fT (fT (fT (fT (fT vi 89 (nI fr22)) 81 (nI (pq22 - 1))) 21 s22) 22 p22) 82 sp22) 84 tv22) vj)) hx hb hts iwsRX12_bound_in12 hown hK hP 0 rfl rfl 78 (by decide) (hts _ hm_r_X12_bound_3) (fun _ h9 => h9) rfl dX12_bound_59 ?_
        refine lv_bipush (v := 9) hx hb dX12_bound_62 (by decide) ?_
        refine lv_aload_n hx hb dX12_bound_64 rfl (lv_at hl 0 rfl) ?_
        refine va_get (D := (dC, dI)) (ci := 12) (v := .int (nI (pq22 - 1))) (C := RX12) (T := TX12) (N := 163) (fs := fM (vS a (fT (fT (fT (fT (fT (fT vi 89 (nI fr22)) 81 (nI (pq22 - 1))) 21 s22) 22 p22) 82 sp22) 84 tv22) vj)) hx hb hts iwsRX12_bound_in12 hown hK hP 0 rfl rfl 81 (by decide) (hts _ hm_r_X12_bound_1) (fun _ h9 => h9) rfl dX12_bound_65 ?_
        refine lv_imul hx hb dX12_bound_68 ?_
        refine lv_topi (fun y12 hy12 => ?_)
        obtain rfl : (nI (9 * (pq22 - 1))) = y12 := (hy12.trans (pk_mul 9 (pq22 - 1))).symm
        refine va_iald (cA := k 49) (n := 900) (f := g492) hx hb hK hP 50 49 (WR_get 49 (by decide)) (TR_get 49 (by decide)) (vp_in_nI (show (9 * (pq22 - 1)) < 900 by omega) (by omega)) dX12_bound_69 ?_
        refine lv_topi (fun y13 hy13 => ?_)
        obtain rfl : (g492 (9 * (pq22 - 1))) = y13 := (hy13.trans (by rw [nI_clamp (by omega)])).symm
        refine lv_sipush (v := (-999)) hx hb dX12_bound_70 (by decide) ?_
        refine lv_icmp_ge (tgt := 88) hx hb dX12_bound_73 (by decide) (fun c_73 => ?_) (fun c_73 => ?_)
        · have t_73 : ((g492 (9 * (pq22 - 1)))).toInt ≥ -999 := toI_ge c_73 rfl (by decide)
          refine lv_aload_n hx hb dX12_bound_88 rfl (lv_at hl 0 rfl) ?_
          refine va_get (D := (dC, dI)) (ci := 12) (v := .int s22) (C := RX12) (T := TX12) (N := 163) (fs := fM (vS a (fT (fT (fT (fT (fT (fT vi 89 (nI fr22)) 81 (nI (pq22 - 1))) 21 s22) 22 p22) 82 sp22) 84 tv22) vj)) hx hb hts iwsRX12_bound_in12 hown hK hP 0 rfl rfl 21 (by decide) (hts _ hm_r_X12_bound_0) (fun _ h9 => h9) rfl dX12_bound_89 ?_
          refine lv_if_le (tgt := 99) hx hb dX12_bound_92 (by decide) (fun c_92 => ?_) (fun c_92 => ?_)
          · have t_92 : (s22).toInt ≤ 0 := toI_le c_92 rfl (by decide)
            refine lv_aload_n hx hb dX12_bound_99 rfl (lv_at hl 0 rfl) ?_
            refine va_get (D := (dC, dI)) (ci := 12) (v := .ref (a 49)) (C := RX12) (T := TX12) (N := 163) (fs := fM (vS a (fT (fT (fT (fT (fT (fT vi 89 (nI fr22)) 81 (nI (pq22 - 1))) 21 s22) 22 p22) 82 sp22) 84 tv22) vj)) hx hb hts iwsRX12_bound_in12 hown hK hP 0 rfl rfl 78 (by decide) (hts _ hm_r_X12_bound_3) (fun _ h9 => h9) rfl dX12_bound_100 ?_
            refine lv_bipush (v := 9) hx hb dX12_bound_103 (by decide) ?_
            refine lv_aload_n hx hb dX12_bound_105 rfl (lv_at hl 0 rfl) ?_
            refine va_get (D := (dC, dI)) (ci := 12) (v := .int (nI (pq22 - 1))) (C := RX12) (T := TX12) (N := 163) (fs := fM (vS a (fT (fT (fT (fT (fT (fT vi 89 (nI fr22)) 81 (nI (pq22 - 1))) 21 s22) 22 p22) 82 sp22) 84 tv22) vj)) hx hb hts iwsRX12_bound_in12 hown hK hP 0 rfl rfl 81 (by decide) (hts _ hm_r_X12_bound_1) (fun _ h9 => h9) rfl dX12_bound_106 ?_
            refine lv_imul hx hb dX12_bound_109 ?_
            refine lv_topi (fun y14 hy14 => ?_)
            obtain rfl : (nI (9 * (pq22 - 1))) = y14 := (hy14.trans (pk_mul 9 (pq22 - 1))).symm
            refine va_iald (cA := k 49) (n := 900) (f := g492) hx hb hK hP 50 49 (WR_get 49 (by decide)) (TR_get 49 (by decide)) (vp_in_nI (show (9 * (pq22 - 1)) < 900 by omega) (by omega)) dX12_bound_110 ?_
            refine lv_topi (fun y15 hy15 => ?_)
            obtain rfl : (g492 (9 * (pq22 - 1))) = y15 := (hy15.trans (by rw [nI_clamp (by omega)])).symm
            refine W.widen (k := 0) (n := 0) (by decide +kernel) (by decide +kernel) ?_
            exact W.iret (v := (g492 (9 * (pq22 - 1)))) hx hb hr (fun t9_ ht hW => ⟨⟨(g492 (9 * (pq22 - 1))), (g492, g502, g512, g522, g532, g542, fr22, (pq22 - 1), s22, p22, sp22, tv22), rfl, by (try dsimp only); exact ⟨fun v9 h9 => f2_0 v9 (by omega), f2_1, by omega, Or.inr ⟨by omega, by omega⟩⟩, by rw [ht]; exact hP, hD⟩, hS.F ht⟩) hS.2.2 dX12_bound_111
          · have t_92 : ¬ (s22).toInt ≤ 0 := toI_nle c_92 rfl (by decide)
            refine lv_iconst (v := 0) hx hb dX12_bound_95 (by decide) ?_
            refine lv_goto (tgt := 111) hx hb dX12_bound_96 (by decide) ?_
            refine W.widen (k := 0) (n := 0) (by decide +kernel) (by decide +kernel) ?_
            exact W.iret (v := 0) hx hb hr (fun t9_ ht hW => ⟨⟨0, (g492, g502, g512, g522, g532, g542, fr22, (pq22 - 1), s22, p22, sp22, tv22), rfl, by (try dsimp only); exact ⟨fun v9 h9 => f2_0 v9 (by omega), f2_1, by omega, Or.inl (by omega)⟩, by rw [ht]; exact hP, hD⟩, hS.F ht⟩) hS.2.2 dX12_bound_111
        · have t_73 : ¬ ((g492 (9 * (pq22 - 1)))).toInt ≥ -999 := toI_nge c_73 rfl (by decide)
          refine lv_aload_n hx hb dX12_bound_76 rfl (lv_at hl 0 rfl) ?_
          refine lv_bipush (v := 9) hx hb dX12_bound_77 (by decide) ?_
          refine lv_aload_n hx hb dX12_bound_79 rfl (lv_at hl 0 rfl) ?_
          refine va_get (D := (dC, dI)) (ci := 12) (v := .ref (a 67)) (C := RX12) (T := TX12) (N := 163) (fs := fM (vS a (fT (fT (fT (fT (fT (fT vi 89 (nI fr22)) 81 (nI (pq22 - 1))) 21 s22) 22 p22) 82 sp22) 84 tv22) vj)) hx hb hts iwsRX12_bound_in12 hown hK hP 0 rfl rfl 107 (by decide) (hts _ hm_r_X12_bound_2) (fun _ h9 => h9) rfl dX12_bound_80 ?_
          refine lv_iload_n hx hb dX12_bound_83 rfl (lv_at hl 1 rfl) ?_
          refine va_iald (cA := k 67) (n := 200) (f := (vF 67)) hx hb hK hP 68 67 (WR_get 67 (by decide)) (TR_get 67 (by decide)) (vp_in_nI (show kP < 200 by omega) (by omega)) dX12_bound_84 ?_
          refine lv_topi (fun y16 hy16 => ?_)
          obtain rfl : ((vF 67) kP) = y16 := (hy16.trans (by rw [nI_clamp (by omega)])).symm
          have hFc := allFree hD hS hA
          refine va_callv (va_runV (As := [.int 9, .int ((vF 67) kP)]) (rest := []) ⟨hx, hb, hml, hown, hts⟩ (r_X12_faultAt l dC dI a k h0 (fT (fT (fT (fT (fT (fT vi 89 (nI fr22)) 81 (nI (pq22 - 1))) 21 s22) 22 p22) 82 sp22) 84 tv22) vj (fT (fT (fT (fT (fT (fT vF 52 g522) 53 g532) 49 g492) 50 g502) 51 g512) 54 g542) vG 9 ((vF 67) kP) (by first | with_reducible assumption | decide | omega | rfl | assumption) H.size) (cwV 2 hts gwsRX12_bound_1 rfl rfl rfl hd_yX12_faultAt_RX12 (by decide +kernel)) (fz_pre (va_recv hK hP (ci := 12) (q0 := 0) rfl rfl) hP hK hD) rfl rfl hl.1 rfl (lv_room (Nat.le_of_ble_eq_true rfl)) dX12_bound_85 (by decide +kernel)) hS (fun q _ h => hFc q h) hFc (fun u t9_ H locs ht hvm hw9 hB9 hz1 hk1 hS => ?_)
          revert u hw9 hB9
          refine fz_p2 ?_
          intro s285_2 p285_2 hw9 hB9
          try dsimp only at hw9 hB9
          have e9i : fT (fT (fT (fT (fT (fT vi 89 (nI fr22)) 81 (nI (pq22 - 1))) 21 s285_2) 22 p285_2) 82 sp22) 84 tv22 = fT (fT (fT (fT (fT (fT (fT (fT vi 89 (nI fr22)) 81 (nI (pq22 - 1))) 21 s22) 22 p22) 82 sp22) 84 tv22) 21 s285_2) 22 p285_2 := Eq.symm (Eq.trans (congrArg (fun g9 => fT g9 22 p285_2) (up_3 rfl)) (up_2 rfl))
          have hP := wr_Pi e9i (fz_P ht hB9.1)
          have hD := wr_Di e9i (hB9.2.weaken (fun _ q _ h => hFc q.1 h))
          clear e9i
          revert hw9
          refine fz_a2 ?_
          intro f85_2_0 f85_2_1
          have f85_2_0 : (0 < s22.toInt ∧ s285_2 = s22 ∧ p285_2 = p22) ∨ (¬ 0 < s22.toInt ∧ s285_2 = 9 ∧ p285_2 = ((vF 67) kP)) := f85_2_0
          refine lv_aload_n hx hb dX12_bound_88 rfl (lv_at hl 0 rfl) ?_
          refine va_get (D := (dC, dI)) (ci := 12) (v := .int s285_2) (C := RX12) (T := TX12) (N := 163) (fs := fM (vS a (fT (fT (fT (fT (fT (fT vi 89 (nI fr22)) 81 (nI (pq22 - 1))) 21 s285_2) 22 p285_2) 82 sp22) 84 tv22) vj)) hx hb hts iwsRX12_bound_in12 hown hK hP 0 rfl rfl 21 (by decide) (hts _ hm_r_X12_bound_0) (fun _ h9 => h9) rfl dX12_bound_89 ?_
          refine lv_if_le (tgt := 99) hx hb dX12_bound_92 (by decide) (fun c_92 => ?_) (fun c_92 => ?_)
          · have t_92 : (s285_2).toInt ≤ 0 := toI_le c_92 rfl (by decide)
            refine lv_aload_n hx hb dX12_bound_99 rfl (lv_at hl 0 rfl) ?_
            refine va_get (D := (dC, dI)) (ci := 12) (v := .ref (a 49)) (C := RX12) (T := TX12) (N := 163) (fs := fM (vS a (fT (fT (fT (fT (fT (fT vi 89 (nI fr22)) 81 (nI (pq22 - 1))) 21 s285_2) 22 p285_2) 82 sp22) 84 tv22) vj)) hx hb hts iwsRX12_bound_in12 hown hK hP 0 rfl rfl 78 (by decide) (hts _ hm_r_X12_bound_3) (fun _ h9 => h9) rfl dX12_bound_100 ?_
            refine lv_bipush (v := 9) hx hb dX12_bound_103 (by decide) ?_
            refine lv_aload_n hx hb dX12_bound_105 rfl (lv_at hl 0 rfl) ?_
            refine va_get (D := (dC, dI)) (ci := 12) (v := .int (nI (pq22 - 1))) (C := RX12) (T := TX12) (N := 163) (fs := fM (vS a (fT (fT (fT (fT (fT (fT vi 89 (nI fr22)) 81 (nI (pq22 - 1))) 21 s285_2) 22 p285_2) 82 sp22) 84 tv22) vj)) hx hb hts iwsRX12_bound_in12 hown hK hP 0 rfl rfl 81 (by decide) (hts _ hm_r_X12_bound_1) (fun _ h9 => h9) rfl dX12_bound_106 ?_
            refine lv_imul hx hb dX12_bound_109 ?_
            refine lv_topi (fun y17 hy17 => ?_)
            obtain rfl : (nI (9 * (pq22 - 1))) = y17 := (hy17.trans (pk_mul 9 (pq22 - 1))).symm
            refine va_iald (cA := k 49) (n := 900) (f := g492) hx hb hK hP 50 49 (WR_get 49 (by decide)) (TR_get 49 (by decide)) (vp_in_nI (show (9 * (pq22 - 1)) < 900 by omega) (by omega)) dX12_bound_110 ?_
            refine lv_topi (fun y18 hy18 => ?_)
            obtain rfl : (g492 (9 * (pq22 - 1))) = y18 := (hy18.trans (by rw [nI_clamp (by omega)])).symm
            refine W.widen (k := 0) (n := 0) (by decide +kernel) (by decide +kernel) ?_
            exact W.iret (v := (g492 (9 * (pq22 - 1)))) hx hb hr (fun t9_ ht hW => ⟨⟨(g492 (9 * (pq22 - 1))), (g492, g502, g512, g522, g532, g542, fr22, (pq22 - 1), s285_2, p285_2, sp22, tv22), rfl, by (try dsimp only); exact ⟨fun v9 h9 => f2_0 v9 (by omega), f2_1, by omega, Or.inr ⟨by omega, by omega⟩⟩, by rw [ht]; exact hP, hD⟩, hS.F ht⟩) hS.2.2 dX12_bound_111
          · have t_92 : ¬ (s285_2).toInt ≤ 0 := toI_nle c_92 rfl (by decide)
            refine lv_iconst (v := 0) hx hb dX12_bound_95 (by decide) ?_
            refine lv_goto (tgt := 111) hx hb dX12_bound_96 (by decide) ?_
            refine W.widen (k := 0) (n := 0) (by decide +kernel) (by decide +kernel) ?_
            exact W.iret (v := 0) hx hb hr (fun t9_ ht hW => ⟨⟨0, (g492, g502, g512, g522, g532, g542, fr22, (pq22 - 1), s285_2, p285_2, sp22, tv22), rfl, by (try dsimp only); exact ⟨fun v9 h9 => f2_0 v9 (by omega), f2_1, by omega, Or.inl (by omega)⟩, by rw [ht]; exact hP, hD⟩, hS.F ht⟩) hS.2.2 dX12_bound_111
  · have t_9 : ¬ (s22).toInt ≤ 0 := toI_nle c_9 rfl (by decide)
    refine lv_iconst (v := 0) hx hb dX12_bound_12 (by decide) ?_
    refine W.widen (k := 0) (n := 0) (by decide +kernel) (by decide +kernel) ?_
    exact W.iret (v := 0) hx hb hr (fun t9_ ht hW => ⟨⟨0, (g492, g502, g512, g522, g532, g542, fr22, pq22, s22, p22, sp22, tv22), rfl, by (try dsimp only); exact ⟨f2_0, f2_1, f2_2, Or.inl (by omega)⟩, by rw [ht]; exact hP, hD⟩, hS.F ht⟩) hS.2.2 dX12_bound_13
end
section
/-- the reader's ghosts: the finished nodes, their work, order, pile and members -/
abbrev RG : Type := (Nat → Prop) × (Nat → Nat) × (Nat → Nat) × (Nat → Nat) × (Nat → Int32) × Nat
abbrev RG.V (G : RG) : Nat → Prop := Prod.fst G
abbrev RG.wt (G : RG) : Nat → Nat := G.2.1
abbrev RG.dp (G : RG) : Nat → Nat := G.2.2.1
abbrev RG.pd (G : RG) : Nat → Nat := G.2.2.2.1
abbrev RG.mb (G : RG) : Nat → Int32 := G.2.2.2.2.1
abbrev RG.vN (G : RG) : Nat := G.2.2.2.2.2
/-- one more finished node -/
def RG.add (G : RG) (n w p : Nat) (b : Int32) : RG := ⟨fun q => q = n ∨ G.V q, fun q => if q = n then w else G.wt q, fun q => if q = n then G.vN else G.dp q, fun q => if q = n then p else G.pd q, fun q => if q = n then b else G.mb q, G.vN + 1⟩
/-- the rows that a node speaks of: T the tables, the rest the nodes' and the bindings' own -/
def ndF (T : Nat → Nat → Int32) (mb f29 f30 f31 f32 f36 f37 f38 : Nat → Int32) : Nat → Nat → Int32 := fun k =>
  if k = 29 then f29 else if k = 30 then f30 else if k = 31 then f31 else if k = 32 then f32 else if k = 36 then f36 else if k = 37 then f37 else if k = 38 then f38 else if k = 150 then mb else T k
theorem ndF_T {T : Nat → Nat → Int32} {mb f29 f30 f31 f32 f36 f37 f38 : Nat → Int32} {x : Nat} (hx : x < 29) : ndF T mb f29 f30 f31 f32 f36 f37 f38 x = T x := by
  unfold ndF
  rw [if_neg (by omega), if_neg (by omega), if_neg (by omega), if_neg (by omega), if_neg (by omega), if_neg (by omega), if_neg (by omega), if_neg (by omega)]
theorem NamS.cg {F F' : Nat → Nat → Int32} {se k a pl o1 o2 aT : Nat} (hT : ∀ x, x < 29 → F' x = F x) (h : NamS F se k a pl o1 o2 aT) : NamS F' se k a pl o1 o2 aT := by
  unfold NamS MmK nuF at h ⊢
  rw [hT 17 (by decide), hT 3 (by decide), hT 18 (by decide), hT 19 (by decide), hT 20 (by decide), hT 21 (by decide), hT 24 (by decide), hT 25 (by decide), hT 26 (by decide), hT 27 (by decide), hT 1 (by decide), hT 2 (by decide)]
  exact h
theorem KidL.mono {F F' : Nat → Nat → Int32} {V V' : Nat → Prop} {dp pd dp' pd' : Nat → Nat} {n x d c : Nat} (h : KidL F V dp pd n x d c) (hx : F' x n = F x n) (hc : ∀ q, V q → V' q ∧ F' 29 q = F 29 q ∧ dp' q = dp q ∧ pd' q = pd q) (hn : dp' n = dp n ∧ pd' n = pd n) : KidL F' V' dp' pd' n x d c := by
  obtain ⟨⟨h1, h2⟩, h3, h4, h5, h6⟩ := h
  obtain ⟨a1, a2, a3, a4⟩ := hc c h3
  exact ⟨⟨hx.trans h1, h2⟩, a1, by omega, by omega, by rw [a2]; exact h6⟩
theorem KidT.mono {F F' : Nat → Nat → Int32} {V V' : Nat → Prop} {dp pd dp' pd' : Nat → Nat} {n x d c : Nat} (h : KidT F V dp pd n x d c) (hx : F' x n = F x n) (hc : ∀ q, V q → V' q ∧ F' 29 q = F 29 q ∧ dp' q = dp q ∧ pd' q = pd q) (hn : dp' n = dp n ∧ pd' n = pd n) : KidT F' V' dp' pd' n x d c := by
  obtain ⟨⟨h1, h2⟩, h3, h4, h5, h6⟩ := h
  obtain ⟨a1, a2, a3, a4⟩ := hc c h3
  exact ⟨⟨hx.trans h1, h2⟩, a1, by omega, by omega, by rw [a2]; exact h6⟩
theorem NdK.mono {F F' : Nat → Nat → Int32} {V V' : Nat → Prop} {wt dp pd wt' dp' pd' : Nat → Nat} {se n k : Nat} (h : NdK F V wt dp pd se n k) (h30 : F' 30 n = F 30 n) (h31 : F' 31 n = F 31 n) (h32 : F' 32 n = F 32 n) (h150 : F' 150 n = F 150 n) (h17 : F' 17 = F 17) (hT : ∀ a pl o1 o2 aT, (k = 2 ∨ k = 3) → NamS F se k a pl o1 o2 aT → NamS F' se k a pl o1 o2 aT)
    (hc : ∀ q, V q → V' q ∧ F' 29 q = F 29 q ∧ wt' q = wt q ∧ dp' q = dp q ∧ pd' q = pd q) (hn : wt' n = wt n ∧ dp' n = dp n ∧ pd' n = pd n) (hb : k = 9 → ∀ b, F 30 n = nI b → b < 900 → F' 36 b = F 36 b ∧ F' 37 b = F 37 b ∧ F' 38 b = F 38 b) : NdK F' V' wt' dp' pd' se n k := by
  have hc' : ∀ q, V q → V' q ∧ F' 29 q = F 29 q ∧ dp' q = dp q ∧ pd' q = pd q := fun q hq => ⟨(hc q hq).1, (hc q hq).2.1, (hc q hq).2.2.2⟩
  obtain ⟨n1, n2, n3⟩ := hn
  have hw : ∀ q, V q → wt' q = wt q := fun q hq => (hc q hq).2.2.1
  have hmb : mbO F' n = mbO F n := by unfold mbO; rw [h150]
  rcases h with ⟨a, b, c⟩ | ⟨a, b, x, c, d⟩ | ⟨a, b, x, pl, o1, o2, aT, d, c, ⟨e1, e2⟩, e3, e4⟩ | ⟨a, b, c, d, e⟩ | ⟨a, b, c, d, e, f, g⟩ | ⟨a, b, x, c, W, d1, d2, d3, d4, d5, d6, d7⟩ | ⟨a, c, d, e, f, g⟩ | ⟨a, c, d, e⟩
  · exact Or.inl ⟨a, by omega, by rw [h30]; exact c⟩
  · exact Or.inr (Or.inl ⟨a, by omega, x, c, h30.trans d⟩)
  · refine Or.inr (Or.inr (Or.inl ⟨a, by omega, x, pl, o1, o2, aT, d, c, ⟨h30.trans e1, e2⟩, ?_, ?_⟩))
    · exact hT x pl o1 o2 aT a e3
    · obtain ⟨g1, g2, g3⟩ := e4
      refine ⟨g1.imp (fun q => ⟨q.1, h31.trans q.2⟩) (fun q => ⟨q.1, q.2.mono h31 hc' ⟨n2, n3⟩⟩), g2.imp (fun q => ⟨q.1, h32.trans q.2⟩) (fun q => ⟨q.1, q.2.mono h32 hc' ⟨n2, n3⟩⟩), ?_⟩
      rcases g1 with g1 | g1
      · exact Or.inl g1.1
      · have w1 := hw d g1.2.2.1
        rcases g3 with g3 | ⟨g3, g4⟩
        · exact Or.inl g3
        · refine Or.inr ⟨by omega, ?_⟩
          rcases g2 with g2 | g2
          · exact Or.inl (by omega)
          · have w2 := hw c g2.2.2.1
            rcases g4 with g4 | g4
            · exact Or.inl g4
            · exact Or.inr (by omega)
  · have w1 := hw c d.2.1
    exact Or.inr (Or.inr (Or.inr (Or.inl ⟨a, by omega, c, d.mono h30 hc' ⟨n2, n3⟩, by omega⟩)))
  · have w1 := hw c e.2.1
    have w2 := hw d f.2.1
    exact Or.inr (Or.inr (Or.inr (Or.inr (Or.inl ⟨a, by omega, c, d, e.mono h30 hc' ⟨n2, n3⟩, f.mono h31 hc' ⟨n2, n3⟩, by omega⟩))))
  · obtain ⟨b1, b2, b3⟩ := hb a x d1 d2
    have w1 := hw c d6.1.2.1
    refine Or.inr (Or.inr (Or.inr (Or.inr (Or.inr (Or.inl ⟨a, by omega, x, c, W, h30.trans d1, d2, ?_, ?_, ?_, ⟨d6.1.mono h32 hc' ⟨n2, n3⟩, by (have := d6.2.1); omega, ?_⟩, ?_⟩)))))
    · unfold BnO at d3 ⊢
      rw [b1, b2, b3]
      exact d3
    · unfold MbO at d4 ⊢
      rw [hmb, b1, b2, h17]
      exact d4
    · rw [hmb]; exact d5
    · rcases d6.2.2 with q | ⟨y, q, r⟩
      · exact Or.inl (h31.trans q)
      · have w2 := hw y q.2.1
        exact Or.inr ⟨y, q.mono h31 hc' ⟨n2, n3⟩, by omega⟩
    · rw [hmb, n1]; exact d7
  · have w1 := hw c e.2.1
    have w2 := hw d f.2.1
    exact Or.inr (Or.inr (Or.inr (Or.inr (Or.inr (Or.inr (Or.inl ⟨a, c, d, e.mono h30 hc' ⟨n2, n3⟩, f.mono h31 hc' ⟨n2, n3⟩, by omega⟩))))))
  · have w1 := hw c d.2.1
    exact Or.inr (Or.inr (Or.inr (Or.inr (Or.inr (Or.inr (Or.inr ⟨a, c, d.mono h30 hc' ⟨n2, n3⟩, by omega⟩))))))
/-- the finished nodes are well formed, below nd, their bindings below bs -/
def RdV (T : Nat → Nat → Int32) (G : RG) (f29 f30 f31 f32 f36 f37 f38 : Nat → Int32) (se nd bs : Nat) : Prop :=
  VoK (ndF T G.mb f29 f30 f31 f32 f36 f37 f38) G.V G.wt G.dp G.pd se ∧ (∀ n, G.V n → n < nd ∧ G.dp n < G.vN) ∧ ∀ n b, G.V n → f29 n = nI 9 → f30 n = nI b → b < 900 → b < bs
theorem RdV.keep {T : Nat → Nat → Int32} {G : RG} {f29 f30 f31 f32 f36 f37 f38 g29 g30 g31 g32 g36 g37 g38 : Nat → Int32} {se nd bs nd' bs' : Nat} (h : RdV T G f29 f30 f31 f32 f36 f37 f38 se nd bs) (hn : ∀ n, G.V n → g29 n = f29 n ∧ g30 n = f30 n ∧ g31 n = f31 n ∧ g32 n = f32 n) (hb : ∀ b, b < bs → g36 b = f36 b ∧ g37 b = f37 b ∧ g38 b = f38 b) (hnd : nd ≤ nd') (hbs : bs ≤ bs') : RdV T G g29 g30 g31 g32 g36 g37 g38 se nd' bs' := by
  obtain ⟨h1, h2, h3⟩ := h
  refine ⟨fun n hv => ?_, fun n hv => ⟨Nat.lt_of_lt_of_le (h2 n hv).1 hnd, (h2 n hv).2⟩, fun n b hv e1 e2 e9 => ?_⟩
  · obtain ⟨a1, k, a2, a3⟩ := h1 n hv
    obtain ⟨e1, e2, e3, e4⟩ := hn n hv
    refine ⟨a1, k, e1.trans a2, a3.mono e2 e3 e4 rfl ((ndF_T (by decide)).trans (ndF_T (by decide)).symm) (fun x pl o1 o2 aT _ => NamS.cg (fun x hx => (ndF_T hx).trans (ndF_T hx).symm)) (fun q hq => ⟨hq, (hn q hq).1, rfl, rfl, rfl⟩) ⟨rfl, rfl, rfl⟩ (fun hk b hb' h9 => ?_)⟩
    · subst hk
      exact hb b (h3 n b hv a2 hb' h9)
  · obtain ⟨e3, e4, _⟩ := hn n hv
    exact Nat.lt_of_lt_of_le (h3 n b hv (e3.symm.trans e1) (e4.symm.trans e2) e9) hbs
theorem RdV.add {T : Nat → Nat → Int32} {G : RG} {f29 f30 f31 f32 f36 f37 f38 : Nat → Int32} {se nd bs n w p k : Nat} {b : Int32} (h : RdV T G f29 f30 f31 f32 f36 f37 f38 se nd bs) (hv : ¬ G.V n) (hn : n < nd) (h4 : n < 4000) (hk : f29 n = nI k)
    (hN : NdK (ndF T (G.add n w p b).mb f29 f30 f31 f32 f36 f37 f38) (G.add n w p b).V (G.add n w p b).wt (G.add n w p b).dp (G.add n w p b).pd se n k) (hb : k = 9 → ∀ x, f30 n = nI x → x < 900 → x < bs) (hk9 : k < 4000) : RdV T (G.add n w p b) f29 f30 f31 f32 f36 f37 f38 se nd bs := by
  obtain ⟨h1, h2, h3⟩ := h
  refine ⟨fun q hq => ?_, fun q hq => ?_, fun q x hq e1 e2 e9 => ?_⟩
  · rcases hq with rfl | hq
    · exact ⟨h4, k, hk, hN⟩
    · have hqn : q ≠ n := fun e => hv (e ▸ hq)
      obtain ⟨a1, k9, a2, a3⟩ := h1 q hq
      exact ⟨a1, k9, a2, a3.mono rfl rfl rfl (if_neg hqn) ((ndF_T (by decide)).trans (ndF_T (by decide)).symm) (fun x pl o1 o2 aT _ => NamS.cg (fun x hx => (ndF_T hx).trans (ndF_T hx).symm))
        (fun c hc => have hcn : c ≠ n := fun e => hv (e ▸ hc)
          ⟨Or.inr hc, rfl, if_neg hcn, if_neg hcn, if_neg hcn⟩) ⟨if_neg hqn, if_neg hqn, if_neg hqn⟩ (fun _ _ _ _ => ⟨rfl, rfl, rfl⟩)⟩
  · rcases hq with rfl | hq
    · exact ⟨hn, by show (if q = q then G.vN else G.dp q) < G.vN + 1; rw [if_pos rfl]; omega⟩
    · have hqn : q ≠ n := fun e => hv (e ▸ hq)
      exact ⟨(h2 q hq).1, by show (if q = n then G.vN else G.dp q) < G.vN + 1; rw [if_neg hqn]; have := (h2 q hq).2; omega⟩
  · rcases hq with rfl | hq
    · exact hb (nIinj hk9 (by decide) (hk.symm.trans e1)) x e2 e9
    · exact h3 q x hq e1 e2 e9
/-- a finished part that lays a row on the pile (LinO), or a truth (TruO); its pile is within P -/
def LinO (G : RG) (f29 : Nat → Int32) (c P : Nat) : Prop := G.V c ∧ (f29 c).toInt ≤ 9 ∧ G.pd c ≤ P
def TruO (G : RG) (f29 : Nat → Int32) (c P : Nat) : Prop := G.V c ∧ ¬ (f29 c).toInt ≤ 9 ∧ G.pd c ≤ P
theorem RdV.lt {T : Nat → Nat → Int32} {G : RG} {f29 f30 f31 f32 f36 f37 f38 : Nat → Int32} {se nd bs n : Nat} (h : RdV T G f29 f30 f31 f32 f36 f37 f38 se nd bs) (hv : G.V n) : n < 4000 := (h.1 n hv).1
theorem RdV.kid {T : Nat → Nat → Int32} {G : RG} {f29 f30 f31 f32 f36 f37 f38 : Nat → Int32} {se nd bs n w p c P d x : Nat} {b : Int32} (h : RdV T G f29 f30 f31 f32 f36 f37 f38 se nd bs) (hv : ¬ G.V n) (hc : LinO G f29 c P) (hP : P + d ≤ p) (e : ndF T (G.add n w p b).mb f29 f30 f31 f32 f36 f37 f38 x n = nI c) :
    KidL (ndF T (G.add n w p b).mb f29 f30 f31 f32 f36 f37 f38) (G.add n w p b).V (G.add n w p b).dp (G.add n w p b).pd n x d c := by
  have hcn : c ≠ n := fun e => hv (e ▸ hc.1)
  refine ⟨⟨e, h.lt hc.1⟩, Or.inr hc.1, ?_, ?_, hc.2.1⟩
  · show (if c = n then G.vN else G.dp c) < (if n = n then G.vN else G.dp n)
    rw [if_neg hcn, if_pos rfl]; exact (h.2.1 c hc.1).2
  · show (if c = n then p else G.pd c) + d ≤ (if n = n then p else G.pd n)
    rw [if_neg hcn, if_pos rfl]; have := hc.2.2; omega
theorem RdV.kidT {T : Nat → Nat → Int32} {G : RG} {f29 f30 f31 f32 f36 f37 f38 : Nat → Int32} {se nd bs n w p c P d x : Nat} {b : Int32} (h : RdV T G f29 f30 f31 f32 f36 f37 f38 se nd bs) (hv : ¬ G.V n) (hc : TruO G f29 c P) (hP : P + d ≤ p) (e : ndF T (G.add n w p b).mb f29 f30 f31 f32 f36 f37 f38 x n = nI c) :
    KidT (ndF T (G.add n w p b).mb f29 f30 f31 f32 f36 f37 f38) (G.add n w p b).V (G.add n w p b).dp (G.add n w p b).pd n x d c := by
  have hcn : c ≠ n := fun e => hv (e ▸ hc.1)
  refine ⟨⟨e, h.lt hc.1⟩, Or.inr hc.1, ?_, ?_, hc.2.1⟩
  · show (if c = n then G.vN else G.dp c) < (if n = n then G.vN else G.dp n)
    rw [if_neg hcn, if_pos rfl]; exact (h.2.1 c hc.1).2
  · show (if c = n then p else G.pd c) + d ≤ (if n = n then p else G.pd n)
    rw [if_neg hcn, if_pos rfl]; have := hc.2.2; omega
end
section
theorem LinO.mono {G : RG} {f29 : Nat → Int32} {c P Q : Nat} (h : LinO G f29 c P) (hq : P ≤ Q) : LinO G f29 c Q := ⟨h.1, h.2.1, Nat.le_trans h.2.2 hq⟩
theorem TruO.mono {G : RG} {f29 : Nat → Int32} {c P Q : Nat} (h : TruO G f29 c P) (hq : P ≤ Q) : TruO G f29 c Q := ⟨h.1, h.2.1, Nat.le_trans h.2.2 hq⟩
theorem LinO.new {G : RG} {f29 : Nat → Int32} {n w p k : Nat} {b : Int32} (hk : f29 n = nI k) (h9 : k ≤ 9) : LinO (G.add n w p b) f29 n p := ⟨Or.inl rfl, by rw [hk, nI_toInt (by omega)]; omega, by show (if n = n then p else G.pd n) ≤ p; rw [if_pos rfl]; exact Nat.le_refl _⟩
theorem TruO.new {G : RG} {f29 : Nat → Int32} {n w p k : Nat} {b : Int32} (hk : f29 n = nI k) (h9 : ¬ k ≤ 9) (h4 : k < 4000) : TruO (G.add n w p b) f29 n p := ⟨Or.inl rfl, by rw [hk, nI_toInt (by omega)]; omega, by show (if n = n then p else G.pd n) ≤ p; rw [if_pos rfl]; exact Nat.le_refl _⟩
theorem RdV.num {T : Nat → Nat → Int32} {G : RG} {f29 f30 f31 f32 f36 f37 f38 : Nat → Int32} {se nd bs : Nat} {n p : Nat} (h : RdV T G f29 f30 f31 f32 f36 f37 f38 se nd bs) (hv : ¬ G.V n) (hn : n < nd) (h4 : n < 4000) (hk : f29 n = nI 0) (hp : 1 ≤ p) (ha : -1000200 ≤ (f30 n).toInt ∧ (f30 n).toInt ≤ 1000200) : RdV T (G.add n 0 p 0) f29 f30 f31 f32 f36 f37 f38 se nd bs :=
  h.add hv hn h4 hk (Or.inl ⟨rfl, by show 1 ≤ (if n = n then p else G.pd n); rw [if_pos rfl]; exact hp, ha⟩) (fun e => absurd e (by decide)) (by decide)
theorem RdV.bnd {T : Nat → Nat → Int32} {G : RG} {f29 f30 f31 f32 f36 f37 f38 : Nat → Int32} {se nd bs : Nat} {n p : Nat} (h : RdV T G f29 f30 f31 f32 f36 f37 f38 se nd bs) (hv : ¬ G.V n) (hn : n < nd) (h4 : n < 4000) {x : Nat} (hk : f29 n = nI 1) (hp : 1 ≤ p) (hx : x < 60) (ha : f30 n = nI x) : RdV T (G.add n 0 p 0) f29 f30 f31 f32 f36 f37 f38 se nd bs :=
  h.add hv hn h4 hk (Or.inr (Or.inl ⟨rfl, by show 1 ≤ (if n = n then p else G.pd n); rw [if_pos rfl]; exact hp, x, hx, ha⟩)) (fun e => absurd e (by decide)) (by decide)
theorem RG.wtn {G : RG} {n w p : Nat} {b : Int32} : (G.add n w p b).wt n = w := if_pos rfl
theorem RG.pdn {G : RG} {n w p : Nat} {b : Int32} : (G.add n w p b).pd n = p := if_pos rfl
theorem RG.wto {G : RG} {n w p c : Nat} {b : Int32} (hv : ¬ G.V n) (hc : G.V c) : (G.add n w p b).wt c = G.wt c := if_neg (fun e : c = n => hv (e ▸ hc))
theorem RG.pdo {G : RG} {n w p c : Nat} {b : Int32} (hv : ¬ G.V n) (hc : G.V c) : (G.add n w p b).pd c = G.pd c := if_neg (fun e : c = n => hv (e ▸ hc))
theorem RdV.turn {T : Nat → Nat → Int32} {G : RG} {f29 f30 f31 f32 f36 f37 f38 : Nat → Int32} {se nd bs : Nat} {n p : Nat} (h : RdV T G f29 f30 f31 f32 f36 f37 f38 se nd bs) (hv : ¬ G.V n) (hn : n < nd) (h4 : n < 4000) {c P : Nat} (hk : f29 n = nI 4) (hp : 1 ≤ p) (ha : f30 n = nI c) (hc : LinO G f29 c P) (hP : P ≤ p) : RdV T (G.add n (G.wt c + 3) p 0) f29 f30 f31 f32 f36 f37 f38 se nd bs :=
  h.add hv hn h4 hk (Or.inr (Or.inr (Or.inr (Or.inl ⟨rfl, by rw [RG.pdn]; exact hp, c, h.kid hv hc hP ha, by rw [RG.wto hv hc.1, RG.wtn]; exact Nat.le_refl _⟩)))) (fun e => absurd e (by decide)) (by decide)
theorem RdV.pair {T : Nat → Nat → Int32} {G : RG} {f29 f30 f31 f32 f36 f37 f38 : Nat → Int32} {se nd bs : Nat} {n p : Nat} (h : RdV T G f29 f30 f31 f32 f36 f37 f38 se nd bs) (hv : ¬ G.V n) (hn : n < nd) (h4 : n < 4000) {k c d P Q : Nat} (hk : f29 n = nI k) (hkk : (5 ≤ k ∧ k ≤ 8) ∨ k = 13) (ha : f30 n = nI c) (hb : f31 n = nI d) (hc : LinO G f29 c P) (hd : LinO G f29 d Q) (hp : 2 ≤ p) (hP : P ≤ p) (hQ : Q + 1 ≤ p) : RdV T (G.add n (G.wt c + G.wt d + 3) p 0) f29 f30 f31 f32 f36 f37 f38 se nd bs :=
  h.add hv hn h4 hk (Or.inr (Or.inr (Or.inr (Or.inr (Or.inl ⟨hkk, by rw [RG.pdn]; exact hp, c, d, h.kid hv hc hP ha, h.kid hv hd hQ hb, by rw [RG.wto hv hc.1, RG.wto hv hd.1, RG.wtn]; exact Nat.le_refl _⟩))))) (fun e => absurd e (by omega)) (by omega)
theorem RdV.join {T : Nat → Nat → Int32} {G : RG} {f29 f30 f31 f32 f36 f37 f38 : Nat → Int32} {se nd bs : Nat} {n p : Nat} (h : RdV T G f29 f30 f31 f32 f36 f37 f38 se nd bs) (hv : ¬ G.V n) (hn : n < nd) (h4 : n < 4000) {k c d P Q : Nat} (hk : f29 n = nI k) (hkk : k = 10 ∨ k = 11) (ha : f30 n = nI c) (hb : f31 n = nI d) (hc : TruO G f29 c P) (hd : TruO G f29 d Q) (hP : P ≤ p) (hQ : Q ≤ p) : RdV T (G.add n (G.wt c + G.wt d + 3) p 0) f29 f30 f31 f32 f36 f37 f38 se nd bs :=
  h.add hv hn h4 hk (Or.inr (Or.inr (Or.inr (Or.inr (Or.inr (Or.inr (Or.inl ⟨hkk, c, d, h.kidT hv hc hP ha, h.kidT hv hd hQ hb, by rw [RG.wto hv hc.1, RG.wto hv hd.1, RG.wtn]; exact Nat.le_refl _⟩))))))) (fun e => absurd e (by omega)) (by omega)
theorem RdV.not {T : Nat → Nat → Int32} {G : RG} {f29 f30 f31 f32 f36 f37 f38 : Nat → Int32} {se nd bs : Nat} {n p : Nat} (h : RdV T G f29 f30 f31 f32 f36 f37 f38 se nd bs) (hv : ¬ G.V n) (hn : n < nd) (h4 : n < 4000) {c P : Nat} (hk : f29 n = nI 12) (ha : f30 n = nI c) (hc : TruO G f29 c P) (hP : P ≤ p) : RdV T (G.add n (G.wt c + 3) p 0) f29 f30 f31 f32 f36 f37 f38 se nd bs :=
  h.add hv hn h4 hk (Or.inr (Or.inr (Or.inr (Or.inr (Or.inr (Or.inr (Or.inr ⟨rfl, c, h.kidT hv hc hP ha, by rw [RG.wto hv hc.1, RG.wtn]; exact Nat.le_refl _⟩))))))) (fun e => absurd e (by decide)) (by decide)
theorem NamS.nd {T : Nat → Nat → Int32} {mb f29 f30 f31 f32 f36 f37 f38 : Nat → Int32} {se k a pl o1 o2 aT : Nat} (h : NamS T se k a pl o1 o2 aT) : NamS (ndF T mb f29 f30 f31 f32 f36 f37 f38) se k a pl o1 o2 aT := h.cg (fun x hx => ndF_T hx)
theorem RdV.name0 {T : Nat → Nat → Int32} {G : RG} {f29 f30 f31 f32 f36 f37 f38 : Nat → Int32} {se nd bs : Nat} {n p : Nat} (h : RdV T G f29 f30 f31 f32 f36 f37 f38 se nd bs) (hv : ¬ G.V n) (hn : n < nd) (h4 : n < 4000) {k a pl o1 o2 aT : Nat} (hkk : k = 2 ∨ k = 3) (hk : f29 n = nI k) (ha : f30 n = nI a ∧ a < 44) (hS : NamS T se k a pl o1 o2 aT) (hp : 1 ≤ p) (h0 : pl = 0) (hb : f31 n = -1) (hc : f32 n = -1) : RdV T (G.add n 0 p 0) f29 f30 f31 f32 f36 f37 f38 se nd bs :=
  h.add hv hn h4 hk (Or.inr (Or.inr (Or.inl ⟨hkk, by rw [RG.pdn]; exact hp, a, pl, o1, o2, aT, 0, 0, ⟨ha, hS.nd, Or.inl ⟨h0, hb⟩, Or.inl ⟨by omega, hc⟩, Or.inl h0⟩⟩))) (fun e => absurd e (by omega)) (by omega)
theorem RdV.name1 {T : Nat → Nat → Int32} {G : RG} {f29 f30 f31 f32 f36 f37 f38 : Nat → Int32} {se nd bs : Nat} {n p : Nat} (h : RdV T G f29 f30 f31 f32 f36 f37 f38 se nd bs) (hv : ¬ G.V n) (hn : n < nd) (h4 : n < 4000) {k a pl o1 o2 aT : Nat} (hkk : k = 2 ∨ k = 3) (hk : f29 n = nI k) (ha : f30 n = nI a ∧ a < 44) (hS : NamS T se k a pl o1 o2 aT) (hp : 1 ≤ p) (h0 : pl = 1) {d P : Nat} (hb : f31 n = nI d) (hd : LinO G f29 d P) (hP : P ≤ p) (hc : f32 n = -1) : RdV T (G.add n (G.wt d + 4) p 0) f29 f30 f31 f32 f36 f37 f38 se nd bs :=
  h.add hv hn h4 hk (Or.inr (Or.inr (Or.inl ⟨hkk, by rw [RG.pdn]; exact hp, a, pl, o1, o2, aT, d, 0, ⟨ha, hS.nd, Or.inr ⟨by omega, h.kid hv hd hP hb⟩, Or.inl ⟨by omega, hc⟩, Or.inr ⟨by rw [RG.wto hv hd.1, RG.wtn]; exact Nat.le_refl _, Or.inl h0⟩⟩⟩))) (fun e => absurd e (by omega)) (by omega)
theorem RdV.name2 {T : Nat → Nat → Int32} {G : RG} {f29 f30 f31 f32 f36 f37 f38 : Nat → Int32} {se nd bs : Nat} {n p : Nat} (h : RdV T G f29 f30 f31 f32 f36 f37 f38 se nd bs) (hv : ¬ G.V n) (hn : n < nd) (h4 : n < 4000) {k a pl o1 o2 aT : Nat} (hkk : k = 2 ∨ k = 3) (hk : f29 n = nI k) (ha : f30 n = nI a ∧ a < 44) (hS : NamS T se k a pl o1 o2 aT) (hp : 1 ≤ p) (h0 : pl = 2) {d c P Q : Nat} (hb : f31 n = nI d) (hd : LinO G f29 d P) (hP : P ≤ p) (hcc : f32 n = nI c) (hc : LinO G f29 c Q) (hQ : Q ≤ p) : RdV T (G.add n (G.wt c + G.wt d + 4) p 0) f29 f30 f31 f32 f36 f37 f38 se nd bs :=
  h.add hv hn h4 hk (Or.inr (Or.inr (Or.inl ⟨hkk, by rw [RG.pdn]; exact hp, a, pl, o1, o2, aT, d, c, ⟨ha, hS.nd, Or.inr ⟨by omega, h.kid hv hd hP hb⟩, Or.inr ⟨h0, h.kid hv hc hQ hcc⟩, Or.inr ⟨by rw [RG.wto hv hd.1, RG.wtn]; omega, Or.inr (by rw [RG.wto hv hc.1, RG.wto hv hd.1, RG.wtn]; exact Nat.le_refl _)⟩⟩⟩))) (fun e => absurd e (by omega)) (by omega)
theorem BnO.members {T : Nat → Nat → Int32} {f36 f37 f38 : Nat → Int32} {se b : Nat} (h : BnO f36 f37 f38 se b) (hS : SeO (T 16) (T 17) se) (h44 : se ≤ 44) : ∃ m, MbO (T 17) f36 f37 b m ∧ m ≤ 144 := by
  obtain ⟨⟨o1, h1, e1⟩, h2, _⟩ := h
  obtain ⟨⟨m1, a1, a2, a3⟩, _⟩ := hS o1 h1
  rcases h2 with h2 | ⟨o2, h2, e2⟩
  · exact ⟨m1, ⟨o1, m1, by omega, e1, a3, a2, Or.inl ⟨h2, rfl⟩⟩, by omega⟩
  · obtain ⟨⟨m2, b1, b2, b3⟩, _⟩ := hS o2 h2
    exact ⟨m1 * m2, ⟨o1, m1, by omega, e1, a3, a2, Or.inr ⟨o2, m2, by omega, e2, b3, b2, rfl⟩⟩, Nat.mul_le_mul a2 b2⟩
theorem mbn {T : Nat → Nat → Int32} {G : RG} {f29 f30 f31 f32 f36 f37 f38 : Nat → Int32} {n w p m : Nat} (hm : m ≤ 144) : mbO (ndF T (G.add n w p (nI m)).mb f29 f30 f31 f32 f36 f37 f38) n = m := by
  show ((if n = n then nI m else G.mb n)).toInt.toNat = m
  rw [if_pos rfl, nI_toInt (by omega)]
  rfl
theorem RdV.sum {T : Nat → Nat → Int32} {G : RG} {f29 f30 f31 f32 f36 f37 f38 : Nat → Int32} {se nd bs : Nat} {n p b c m P : Nat} (h : RdV T G f29 f30 f31 f32 f36 f37 f38 se nd bs) (hv : ¬ G.V n) (hn : n < nd) (h4 : n < 4000) (hk : f29 n = nI 9) (hp : 2 ≤ p) (ha : f30 n = nI b) (hb9 : b < 900) (hbs : b < bs) (hB : BnO f36 f37 f38 se b) (hM : MbO (T 17) f36 f37 b m) (hm : m ≤ 144) (hcc : f32 n = nI c) (hc : LinO G f29 c P) (hP : P + 1 ≤ p) (hd : f31 n = -1 ∨ ∃ d, f31 n = nI d ∧ TruO G f29 d (p - 1)) : ∃ w, RdV T (G.add n w p (nI m)) f29 f30 f31 f32 f36 f37 f38 se nd bs := by
  have fin : ∀ x : Nat, f30 n = nI x → x < 900 → x < bs := fun x e h9 => by
    have h1 : b = x := nIinj (by omega) (by omega) (ha.symm.trans e)
    omega
  have hM' : ∀ w, MbO (ndF T (G.add n w p (nI m)).mb f29 f30 f31 f32 f36 f37 f38 17) f36 f37 b (mbO (ndF T (G.add n w p (nI m)).mb f29 f30 f31 f32 f36 f37 f38) n) := fun w => by
    rw [mbn hm, ndF_T (by decide)]; exact hM
  rcases hd with hd | ⟨d, e, hd⟩
  · exact ⟨m * (G.wt c + 5) + 2, h.add hv hn h4 hk (Or.inr (Or.inr (Or.inr (Or.inr (Or.inr (Or.inl ⟨rfl, by rw [RG.pdn]; exact hp, b, c, G.wt c + 5, ha, hb9, hB, hM' _, by rw [mbn hm]; exact hm, ⟨h.kid hv hc hP hcc, by rw [RG.wto hv hc.1]; exact Nat.le_refl _, Or.inl hd⟩, by rw [mbn hm, RG.wtn]; exact Nat.le_refl _⟩)))))) (fun _ => fin) (by decide)⟩
  · exact ⟨m * (G.wt c + G.wt d + 8) + 2, h.add hv hn h4 hk (Or.inr (Or.inr (Or.inr (Or.inr (Or.inr (Or.inl ⟨rfl, by rw [RG.pdn]; exact hp, b, c, G.wt c + G.wt d + 8, ha, hb9, hB, hM' _, by rw [mbn hm]; exact hm, ⟨h.kid hv hc hP hcc, by rw [RG.wto hv hc.1]; omega, Or.inr ⟨d, h.kidT hv hd (by omega) e, by rw [RG.wto hv hc.1, RG.wto hv hd.1]; exact Nat.le_refl _⟩⟩, by rw [mbn hm, RG.wtn]; exact Nat.le_refl _⟩)))))) (fun _ => fin) (by decide)⟩
end
section
/-- a part that may be there: -1, or a finished one -/
def OpL (G : RG) (f29 : Nat → Int32) (x : Int32) (P a : Nat) : Prop := (x = -1 ∧ a = 0) ∨ (a = 1 ∧ ∃ c, x = nI c ∧ LinO G f29 c P)
def OpT (G : RG) (f29 : Nat → Int32) (x : Int32) (P a : Nat) : Prop := (x = -1 ∧ a = 0) ∨ (a = 1 ∧ ∃ c, x = nI c ∧ TruO G f29 c P)
/-- a name node under way, a sum node under way -/
def UnN (T : Nat → Nat → Int32) (f29 f30 : Nat → Int32) (se g pl : Nat) : Prop := ∃ k a o1 o2 aT, (k = 2 ∨ k = 3) ∧ f29 g = nI k ∧ (f30 g = nI a ∧ a < 44) ∧ NamS T se k a pl o1 o2 aT ∧ 1 ≤ pl
def UnS (f29 f30 f36 f37 f38 : Nat → Int32) (se bs u g : Nat) : Prop := f29 g = nI 9 ∧ ∃ b, f30 g = nI b ∧ b < bs ∧ b < 900 ∧ BnO f36 f37 f38 se b ∧ ∃ x, f38 b = nI x ∧ x ≤ 2 + 2 * u
/-- what a reader's frame has under way: i the frame, ek its kind, ck the kind of the frame that it has begun, w its depth, u the sums below it, ex whether it counts, gl gm: the nodes under way of the frames below it, up to it; p1: operators read whose node is to come, n1: nodes under way, m1: sums -/
def RWt (T : Nat → Nat → Int32) (G : RG) (f29 f30 f31 f32 f36 f37 f38 f40 f41 f42 : Nat → Int32) (se bs i ek ck w u ex gl gm p1 n1 m1 : Nat) : Prop :=
  (ex ≤ 1 ∧ (ek ≠ 3 → ex = 1) ∧ (ck = 3 → ex = 1) ∧ gl ≤ gm) ∧
  ((ek = 0 ∧ ck = 1 ∧ f40 i = 1 ∧ n1 = 0 ∧ m1 = 0 ∧ ∃ a b, OpL G f29 (f41 i) (51 - 2 * w) a ∧ OpL G f29 (f42 i) (50 - 2 * w) b ∧ p1 = a + b) ∨
   (ek = 1 ∧ ck = 1 ∧ f40 i = 1 ∧ n1 = 0 ∧ m1 = 0 ∧ p1 = 1) ∨
   (ek = 1 ∧ ck = 0 ∧ f40 i = 2 ∧ n1 = 0 ∧ m1 = 0 ∧ p1 = 0) ∨
   (ek = 1 ∧ ck = 0 ∧ f40 i = 3 ∧ n1 = 1 ∧ m1 = 0 ∧ p1 = 0 ∧ ∃ g pl, f41 i = nI g ∧ gl ≤ g ∧ g < gm ∧ ¬ G.V g ∧ UnN T f29 f30 se g pl ∧ f31 g = -1 ∧ f32 g = -1) ∨
   (ek = 1 ∧ ck = 0 ∧ f40 i = 4 ∧ n1 = 1 ∧ m1 = 0 ∧ p1 = 0 ∧ ∃ g d, f41 i = nI g ∧ gl ≤ g ∧ g < gm ∧ ¬ G.V g ∧ UnN T f29 f30 se g 2 ∧ f31 g = nI d ∧ LinO G f29 d (51 - 2 * w) ∧ f32 g = -1) ∨
   (ek = 1 ∧ ck = 2 ∧ f40 i = 5 ∧ n1 = 1 ∧ m1 = 1 ∧ p1 = 0 ∧ ∃ g, f41 i = nI g ∧ gl ≤ g ∧ g < gm ∧ ¬ G.V g ∧ UnS f29 f30 f36 f37 f38 se bs u g ∧ f31 g = -1) ∨
   (ek = 1 ∧ ck = 1 ∧ f40 i = 6 ∧ n1 = 1 ∧ m1 = 1 ∧ p1 = 0 ∧ ∃ g, f41 i = nI g ∧ gl ≤ g ∧ g < gm ∧ ¬ G.V g ∧ UnS f29 f30 f36 f37 f38 se bs u g ∧ (f31 g = -1 ∨ ∃ d, f31 g = nI d ∧ TruO G f29 d (50 - 2 * w))) ∨
   (ek = 2 ∧ ck = 3 ∧ f40 i = 1 ∧ n1 = 0 ∧ m1 = 0 ∧ ∃ a b, OpT G f29 (f41 i) (51 - 2 * w) a ∧ OpT G f29 (f42 i) (51 - 2 * w) b ∧ p1 = a + b) ∨
   (ek = 3 ∧ ck = 3 ∧ f40 i = 1 ∧ n1 = 0 ∧ m1 = 0 ∧ p1 = 1) ∨
   (ek = 3 ∧ ck = 2 ∧ f40 i = 2 ∧ n1 = 0 ∧ m1 = 0 ∧ p1 = 0) ∨
   (ek = 3 ∧ ck = 0 ∧ f40 i = 3 ∧ n1 = 0 ∧ m1 = 0 ∧ p1 = 0) ∨
   (ek = 3 ∧ ck = 0 ∧ f40 i = 4 ∧ n1 = 0 ∧ m1 = 0 ∧ p1 = 1 ∧ ∃ c, f41 i = nI c ∧ LinO G f29 c (51 - 2 * w)))
/-- nodes and bindings grow: what is finished stays, what lies below gm stays under way -/
def Ext (gm bs : Nat) (G : RG) (f29 f30 f31 f32 f36 f37 f38 : Nat → Int32) (G' : RG) (g29 g30 g31 g32 g36 g37 g38 : Nat → Int32) : Prop :=
  (∀ q, q < gm → g29 q = f29 q ∧ g30 q = f30 q ∧ g31 q = f31 q ∧ g32 q = f32 q) ∧ (∀ q, G.V q → G'.V q ∧ g29 q = f29 q ∧ G'.pd q = G.pd q) ∧ (∀ q, q < gm → G'.V q → G.V q) ∧ ∀ b, b < bs → g36 b = f36 b ∧ g37 b = f37 b ∧ g38 b = f38 b
theorem Ext.lin {gm bs : Nat} {G G' : RG} {f29 f30 f31 f32 f36 f37 f38 g29 g30 g31 g32 g36 g37 g38 : Nat → Int32} (e : Ext gm bs G f29 f30 f31 f32 f36 f37 f38 G' g29 g30 g31 g32 g36 g37 g38) {c P : Nat} (h : LinO G f29 c P) : LinO G' g29 c P := by
  obtain ⟨a1, a2, a3⟩ := e.2.1 c h.1
  exact ⟨a1, by rw [a2]; exact h.2.1, by rw [a3]; exact h.2.2⟩
theorem Ext.tru {gm bs : Nat} {G G' : RG} {f29 f30 f31 f32 f36 f37 f38 g29 g30 g31 g32 g36 g37 g38 : Nat → Int32} (e : Ext gm bs G f29 f30 f31 f32 f36 f37 f38 G' g29 g30 g31 g32 g36 g37 g38) {c P : Nat} (h : TruO G f29 c P) : TruO G' g29 c P := by
  obtain ⟨a1, a2, a3⟩ := e.2.1 c h.1
  exact ⟨a1, by rw [a2]; exact h.2.1, by rw [a3]; exact h.2.2⟩
theorem Ext.opL {gm bs : Nat} {G G' : RG} {f29 f30 f31 f32 f36 f37 f38 g29 g30 g31 g32 g36 g37 g38 : Nat → Int32} (e : Ext gm bs G f29 f30 f31 f32 f36 f37 f38 G' g29 g30 g31 g32 g36 g37 g38) {x : Int32} {P a : Nat} (h : OpL G f29 x P a) : OpL G' g29 x P a := h.imp id (fun ⟨h1, c, h2, h3⟩ => ⟨h1, c, h2, e.lin h3⟩)
theorem Ext.opT {gm bs : Nat} {G G' : RG} {f29 f30 f31 f32 f36 f37 f38 g29 g30 g31 g32 g36 g37 g38 : Nat → Int32} (e : Ext gm bs G f29 f30 f31 f32 f36 f37 f38 G' g29 g30 g31 g32 g36 g37 g38) {x : Int32} {P a : Nat} (h : OpT G f29 x P a) : OpT G' g29 x P a := h.imp id (fun ⟨h1, c, h2, h3⟩ => ⟨h1, c, h2, e.tru h3⟩)
theorem Ext.unN {gm bs : Nat} {G G' : RG} {f29 f30 f31 f32 f36 f37 f38 g29 g30 g31 g32 g36 g37 g38 : Nat → Int32} (e : Ext gm bs G f29 f30 f31 f32 f36 f37 f38 G' g29 g30 g31 g32 g36 g37 g38) {T : Nat → Nat → Int32} {se g pl : Nat} (hg : g < gm) (h : UnN T f29 f30 se g pl) : UnN T g29 g30 se g pl := by
  obtain ⟨k, a, o1, o2, aT, h1, h2, ⟨h3, h4⟩, h5, h6⟩ := h
  obtain ⟨e1, e2, _⟩ := e.1 g hg
  exact ⟨k, a, o1, o2, aT, h1, e1.trans h2, ⟨e2.trans h3, h4⟩, h5, h6⟩
theorem Ext.unS {gm bs bs' : Nat} {G G' : RG} {f29 f30 f31 f32 f36 f37 f38 g29 g30 g31 g32 g36 g37 g38 : Nat → Int32} (e : Ext gm bs G f29 f30 f31 f32 f36 f37 f38 G' g29 g30 g31 g32 g36 g37 g38) (hb : bs ≤ bs') {se u g : Nat} (hg : g < gm) (h : UnS f29 f30 f36 f37 f38 se bs u g) : UnS g29 g30 g36 g37 g38 se bs' u g := by
  obtain ⟨h1, b, h2, h3, h4, h5, x, h6, h7⟩ := h
  obtain ⟨e1, e2, _⟩ := e.1 g hg
  obtain ⟨c1, c2, c3⟩ := e.2.2.2 b h3
  refine ⟨e1.trans h1, b, e2.trans h2, by omega, h4, ?_, x, c3.trans h6, h7⟩
  unfold BnO at h5 ⊢
  rw [c1, c2, c3]
  exact h5
theorem Ext.less {gm gl bs : Nat} {G G' : RG} {f29 f30 f31 f32 f36 f37 f38 g29 g30 g31 g32 g36 g37 g38 : Nat → Int32} (e : Ext gm bs G f29 f30 f31 f32 f36 f37 f38 G' g29 g30 g31 g32 g36 g37 g38) (h : gl ≤ gm) : Ext gl bs G f29 f30 f31 f32 f36 f37 f38 G' g29 g30 g31 g32 g36 g37 g38 := ⟨fun q hq => e.1 q (by omega), e.2.1, fun q hq => e.2.2.1 q (by omega), e.2.2.2⟩
theorem RWt.mono {T : Nat → Nat → Int32} {G G' : RG} {f29 f30 f31 f32 f36 f37 f38 g29 g30 g31 g32 g36 g37 g38 f40 f41 f42 g40 g41 g42 : Nat → Int32} {se bs bs' i ek ck w u ex gl gm p1 n1 m1 : Nat} (h : RWt T G f29 f30 f31 f32 f36 f37 f38 f40 f41 f42 se bs i ek ck w u ex gl gm p1 n1 m1) (e : Ext gm bs G f29 f30 f31 f32 f36 f37 f38 G' g29 g30 g31 g32 g36 g37 g38) (hb : bs ≤ bs') (h40 : g40 i = f40 i) (h41 : g41 i = f41 i) (h42 : g42 i = f42 i) : RWt T G' g29 g30 g31 g32 g36 g37 g38 g40 g41 g42 se bs' i ek ck w u ex gl gm p1 n1 m1 := by
  refine ⟨h.1, ?_⟩
  rcases h.2 with ⟨a1, a2, a3, a4, a5, a, b, a6, a7, a8⟩ | h | h | ⟨a1, a2, a3, a4, a5, a6, g, pl, b1, b2, b3, b4, b5, b6, b7⟩ | ⟨a1, a2, a3, a4, a5, a6, g, d, b1, b2, b3, b4, b5, b6, b7, b8⟩ | ⟨a1, a2, a3, a4, a5, a6, g, b1, b2, b3, b4, b5, b6⟩ | ⟨a1, a2, a3, a4, a5, a6, g, b1, b2, b3, b4, b5, b6⟩ | ⟨a1, a2, a3, a4, a5, a, b, a6, a7, a8⟩ | h | h | h | ⟨a1, a2, a3, a4, a5, a6, c, b1, b2⟩
  · exact Or.inl ⟨a1, a2, h40.trans a3, a4, a5, a, b, by rw [h41]; exact e.opL a6, by rw [h42]; exact e.opL a7, a8⟩
  · exact Or.inr (Or.inl (by rw [h40]; exact h))
  · exact Or.inr (Or.inr (Or.inl (by rw [h40]; exact h)))
  · obtain ⟨_, _, e3, e4⟩ := e.1 g b3
    exact Or.inr (Or.inr (Or.inr (Or.inl ⟨a1, a2, h40.trans a3, a4, a5, a6, g, pl, h41.trans b1, b2, b3, fun q => b4 (e.2.2.1 g b3 q), e.unN b3 b5, e3.trans b6, e4.trans b7⟩)))
  · obtain ⟨_, _, e3, e4⟩ := e.1 g b3
    exact Or.inr (Or.inr (Or.inr (Or.inr (Or.inl ⟨a1, a2, h40.trans a3, a4, a5, a6, g, d, h41.trans b1, b2, b3, fun q => b4 (e.2.2.1 g b3 q), e.unN b3 b5, e3.trans b6, e.lin b7, e4.trans b8⟩))))
  · obtain ⟨_, _, e3, e4⟩ := e.1 g b3
    exact Or.inr (Or.inr (Or.inr (Or.inr (Or.inr (Or.inl ⟨a1, a2, h40.trans a3, a4, a5, a6, g, h41.trans b1, b2, b3, fun q => b4 (e.2.2.1 g b3 q), e.unS hb b3 b5, e3.trans b6⟩)))))
  · obtain ⟨_, _, e3, e4⟩ := e.1 g b3
    exact Or.inr (Or.inr (Or.inr (Or.inr (Or.inr (Or.inr (Or.inl ⟨a1, a2, h40.trans a3, a4, a5, a6, g, h41.trans b1, b2, b3, fun q => b4 (e.2.2.1 g b3 q), e.unS hb b3 b5, b6.imp (fun q => e3.trans q) (fun ⟨d, q, r⟩ => ⟨d, e3.trans q, e.tru r⟩)⟩))))))
  · exact Or.inr (Or.inr (Or.inr (Or.inr (Or.inr (Or.inr (Or.inr (Or.inl ⟨a1, a2, h40.trans a3, a4, a5, a, b, by rw [h41]; exact e.opT a6, by rw [h42]; exact e.opT a7, a8⟩)))))))
  · exact Or.inr (Or.inr (Or.inr (Or.inr (Or.inr (Or.inr (Or.inr (Or.inr (Or.inl (by rw [h40]; exact h)))))))))
  · exact Or.inr (Or.inr (Or.inr (Or.inr (Or.inr (Or.inr (Or.inr (Or.inr (Or.inr (Or.inl (by rw [h40]; exact h))))))))))
  · exact Or.inr (Or.inr (Or.inr (Or.inr (Or.inr (Or.inr (Or.inr (Or.inr (Or.inr (Or.inr (Or.inl (by rw [h40]; exact h)))))))))))
  · exact Or.inr (Or.inr (Or.inr (Or.inr (Or.inr (Or.inr (Or.inr (Or.inr (Or.inr (Or.inr (Or.inr ⟨a1, a2, h40.trans a3, a4, a5, a6, c, h41.trans b1, e.lin b2⟩))))))))))
/-- the reader's frames below the uppermost one: d of them, ck the kind of the one above them -/
def RBel (T : Nat → Nat → Int32) (G : RG) (f29 f30 f31 f32 f36 f37 f38 f39 f40 f41 f42 f48 : Nat → Int32) (se bs r0 : Nat) : Nat → Nat → Nat → Nat → Nat → Nat → Nat → Prop
  | 0, ck, cw, u, pe, un, _ => ck = r0 ∧ cw = 0 ∧ u = 0 ∧ pe = 0 ∧ un = 0
  | d + 1, ck, cw, u, pe, un, gm => ∃ ek cw' u' pe' un' gl ex p1 n1 m1, (f39 d = nI ek ∧ ek ≤ 3 ∧ f48 d = nI ex) ∧ RWt T G f29 f30 f31 f32 f36 f37 f38 f40 f41 f42 se bs d ek ck (cw' + ex) u' ex gl gm p1 n1 m1 ∧ RBel T G f29 f30 f31 f32 f36 f37 f38 f39 f40 f41 f42 f48 se bs r0 d ek cw' u' pe' un' gl ∧ (cw = cw' + ex ∧ u = u' + m1 ∧ pe = pe' + p1 ∧ un = un' + n1) ∧ cw ≤ 25
theorem RBel.congr {T : Nat → Nat → Int32} {G G' : RG} {f29 f30 f31 f32 f36 f37 f38 f39 f40 f41 f42 f48 g29 g30 g31 g32 g36 g37 g38 g39 g40 g41 g42 g48 : Nat → Int32} {se bs bs' r0 : Nat} (hb : bs ≤ bs') : ∀ (d ck cw u pe un gm : Nat), RBel T G f29 f30 f31 f32 f36 f37 f38 f39 f40 f41 f42 f48 se bs r0 d ck cw u pe un gm → Ext gm bs G f29 f30 f31 f32 f36 f37 f38 G' g29 g30 g31 g32 g36 g37 g38 → (∀ q, q < d → g39 q = f39 q ∧ g40 q = f40 q ∧ g41 q = f41 q ∧ g42 q = f42 q ∧ g48 q = f48 q) → RBel T G' g29 g30 g31 g32 g36 g37 g38 g39 g40 g41 g42 g48 se bs' r0 d ck cw u pe un gm
  | 0, _, _, _, _, _, _, h, _, _ => h
  | d + 1, ck, cw, u, pe, un, gm, h, e, hr => by
    obtain ⟨ek, cw', u', pe', un', gl, ex, p1, n1, m1, ⟨a1, a2, a3⟩, a4, a5, a6, a7⟩ := h
    obtain ⟨r1, r2, r3, r4, r5⟩ := hr d (Nat.lt_succ_self d)
    exact ⟨ek, cw', u', pe', un', gl, ex, p1, n1, m1, ⟨r1.trans a1, a2, r5.trans a3⟩, a4.mono e hb r2 r3 r4, RBel.congr hb d ek cw' u' pe' un' gl a5 (e.less a4.1.2.2.2) (fun q hq => hr q (by omega)), a6, a7⟩
/-- how deep the frames may lie -/
theorem RBel.deep {T : Nat → Nat → Int32} {G : RG} {f29 f30 f31 f32 f36 f37 f38 f39 f40 f41 f42 f48 : Nat → Int32} {se bs r0 : Nat} : ∀ (d ck cw u pe un gm : Nat), RBel T G f29 f30 f31 f32 f36 f37 f38 f39 f40 f41 f42 f48 se bs r0 d ck cw u pe un gm → d ≤ 2 * cw + 1 ∧ (ck = 3 → d ≤ 2 * cw) ∧ u ≤ cw
  | 0, _, _, _, _, _, _, h => by obtain ⟨_, h1, h2, _⟩ := h; omega
  | d + 1, ck, cw, u, pe, un, gm, h => by
    obtain ⟨ek, cw', u', pe', un', gl, ex, p1, n1, m1, _, a4, a5, a6, a7⟩ := h
    have ih := RBel.deep d ek cw' u' pe' un' gl a5
    obtain ⟨⟨b1, b2, b3, _⟩, b5⟩ := a4
    have hm : m1 ≤ ex := by
      rcases b5 with h | h | h | h | h | h | h | h | h | h | h | h
      · obtain ⟨h1, _, _, _, h5, _⟩ := h; omega
      · obtain ⟨h1, _, _, _, h5, _⟩ := h; omega
      · obtain ⟨h1, _, _, _, h5, _⟩ := h; omega
      · obtain ⟨h1, _, _, _, h5, _⟩ := h; omega
      · obtain ⟨h1, _, _, _, h5, _⟩ := h; omega
      · obtain ⟨h1, _, _, _, h5, _⟩ := h; (have := b2 (by omega)); omega
      · obtain ⟨h1, _, _, _, h5, _⟩ := h; (have := b2 (by omega)); omega
      · obtain ⟨h1, _, _, _, h5, _⟩ := h; omega
      · obtain ⟨h1, _, _, _, h5, _⟩ := h; omega
      · obtain ⟨h1, _, _, _, h5, _⟩ := h; omega
      · obtain ⟨h1, _, _, _, h5, _⟩ := h; omega
      · obtain ⟨h1, _, _, _, h5, _⟩ := h; omega
    by_cases e3 : ek = 3
    · have := ih.2.1 e3
      by_cases c3 : ck = 3
      · have := b3 c3; omega
      · exact ⟨by omega, fun q => absurd q c3, by omega⟩
    · have := b2 e3
      omega
/-- the value that a frame of the kind ck has read, begun by a frame at the depth w -/
def ResO (G : RG) (f29 : Nat → Int32) (res : Int32) (ck w : Nat) : Prop := ∃ c, res = nI c ∧ ((ck ≤ 1 ∧ w ≤ 24 ∧ LinO G f29 c (49 - 2 * w)) ∨ (ck = 2 ∧ w ≤ 24 ∧ TruO G f29 c (49 - 2 * w)) ∨ (ck = 3 ∧ w ≤ 25 ∧ TruO G f29 c (51 - 2 * w)))
/-- the uppermost frame's own: begun just now (tw: its turns to come), or the frame that it began has come back -/
def RTp (T : Nat → Nat → Int32) (G : RG) (f29 f30 f31 f32 f36 f37 f38 f40 f41 f42 : Nat → Int32) (wd sg res : Int32) (se bs i ek w u ex gl gm p1 n1 m1 tw : Nat) : Prop :=
  (f40 i = 0 ∧ f41 i = -1 ∧ f42 i = -1 ∧ (p1 = 0 ∧ n1 = 0 ∧ m1 = 0 ∧ gm = gl) ∧ (ex ≤ 1 ∧ (ek ≠ 3 → ex = 1)) ∧ (ek = 3 → wd = 2 → sg = 10 → ex = 1) ∧ ((ek = 0 ∧ tw = 3) ∨ (ek = 1 ∧ tw = 1) ∨ (ek = 2 ∧ tw = 7) ∨ (ek = 3 ∧ tw = 5))) ∨
  (tw = 1 ∧ ∃ ck, RWt T G f29 f30 f31 f32 f36 f37 f38 f40 f41 f42 se bs i ek ck w u ex gl gm p1 n1 m1 ∧ ResO G f29 res ck w)
/-- the reader's state within an expression -/
def RdT (T : Nat → Nat → Int32) (G : RG) (f29 f30 f31 f32 f36 f37 f38 f39 f40 f41 f42 f48 : Nat → Int32) (wd sg res : Int32) (se bs r0 d wi nd bd fn M ek cw u pe un gl gm ex p1 n1 m1 tw : Nat) : Prop :=
  (f39 d = nI ek ∧ ek ≤ 3 ∧ f48 d = nI ex) ∧ RBel T G f29 f30 f31 f32 f36 f37 f38 f39 f40 f41 f42 f48 se bs r0 d ek cw u pe un gl ∧ (cw + ex ≤ 25 ∧ wi = cw + ex) ∧ RTp T G f29 f30 f31 f32 f36 f37 f38 f40 f41 f42 wd sg res se bs d ek (cw + ex) u ex gl gm p1 n1 m1 tw ∧
  (nd + pe + p1 ≤ fn ∧ G.vN + un + n1 ≤ nd ∧ 5 * bs ≤ fn ∧ bd ≤ 2 + 2 * (u + m1) ∧ gm ≤ nd ∧ 10 * (4000 - fn) + d + tw ≤ M)
/-- .. or the whole expression has been read -/
def RdS (T : Nat → Nat → Int32) (G : RG) (f29 f30 f31 f32 f36 f37 f38 f39 f40 f41 f42 f48 : Nat → Int32) (wd sg res : Int32) (se bs r0 de wi nd bd fn M : Nat) : Prop :=
  RdV T G f29 f30 f31 f32 f36 f37 f38 se nd bs ∧
  ((de = 0 ∧ wi = 0 ∧ nd ≤ fn ∧ G.vN ≤ nd ∧ 5 * bs ≤ fn ∧ bd ≤ 2 ∧ ∃ c, res = nI c ∧ ((r0 ≤ 1 ∧ LinO G f29 c 51) ∨ (2 ≤ r0 ∧ TruO G f29 c 51))) ∨
   ∃ d ek cw u pe un gl gm ex p1 n1 m1 tw, de = d + 1 ∧ RdT T G f29 f30 f31 f32 f36 f37 f38 f39 f40 f41 f42 f48 wd sg res se bs r0 d wi nd bd fn M ek cw u pe un gl gm ex p1 n1 m1 tw)
end
section
theorem Ext.refl {gm bs : Nat} {G : RG} {f29 f30 f31 f32 f36 f37 f38 : Nat → Int32} (_ : Unit) : Ext gm bs G f29 f30 f31 f32 f36 f37 f38 G f29 f30 f31 f32 f36 f37 f38 := ⟨fun _ _ => ⟨rfl, rfl, rfl, rfl⟩, fun _ h => ⟨h, rfl, rfl⟩, fun _ _ h => h, fun _ _ => ⟨rfl, rfl, rfl⟩⟩
/-- a new node at nd -/
theorem Ext.node {gm bs nd : Nat} {G G' : RG} {f29 f30 f31 f32 f36 f37 f38 g29 g30 g31 g32 g36 g37 g38 : Nat → Int32} {kv av bv cv : Int32} (e : Ext gm bs G f29 f30 f31 f32 f36 f37 f38 G' g29 g30 g31 g32 g36 g37 g38) (hg : gm ≤ nd) (h4 : nd < 2 ^ 31) (hv : ∀ q, G.V q → q < nd) : Ext gm bs G f29 f30 f31 f32 f36 f37 f38 G' (upd g29 (nI nd).toNatClampNeg kv) (upd g30 (nI nd).toNatClampNeg av) (upd g31 (nI nd).toNatClampNeg bv) (upd g32 (nI nd).toNatClampNeg cv) g36 g37 g38 := by
  refine ⟨fun q hq => ?_, fun q hq => ?_, e.2.2.1, e.2.2.2⟩
  · rw [upd_at h4, if_neg (by omega), upd_at h4, if_neg (by omega), upd_at h4, if_neg (by omega), upd_at h4, if_neg (by omega)]
    exact e.1 q hq
  · have := hv q hq
    rw [upd_at h4, if_neg (by omega)]
    exact e.2.1 q hq
/-- a node is finished -/
theorem Ext.add {gm bs n w p : Nat} {b : Int32} {G G' : RG} {f29 f30 f31 f32 f36 f37 f38 g29 g30 g31 g32 g36 g37 g38 : Nat → Int32} (e : Ext gm bs G f29 f30 f31 f32 f36 f37 f38 G' g29 g30 g31 g32 g36 g37 g38) (hg : gm ≤ n) (hv : ¬ G.V n) : Ext gm bs G f29 f30 f31 f32 f36 f37 f38 (G'.add n w p b) g29 g30 g31 g32 g36 g37 g38 := by
  refine ⟨e.1, fun q hq => ?_, fun q hq h => ?_, e.2.2.2⟩
  · obtain ⟨h1, h2, h3⟩ := e.2.1 q hq
    exact ⟨Or.inr h1, h2, (if_neg (fun h : q = n => hv (h ▸ hq))).trans h3⟩
  · rcases h with h | h
    · omega
    · exact e.2.2.1 q hq h
/-- parts of a node under way -/
theorem Ext.b31 {gm bs n : Nat} {v : Int32} {G G' : RG} {f29 f30 f31 f32 f36 f37 f38 g29 g30 g31 g32 g36 g37 g38 : Nat → Int32} (e : Ext gm bs G f29 f30 f31 f32 f36 f37 f38 G' g29 g30 g31 g32 g36 g37 g38) (hg : gm ≤ n) (h4 : n < 2 ^ 31) : Ext gm bs G f29 f30 f31 f32 f36 f37 f38 G' g29 g30 (upd g31 (nI n).toNatClampNeg v) g32 g36 g37 g38 :=
  ⟨fun q hq => by rw [upd_at h4, if_neg (by omega)]; exact e.1 q hq, e.2⟩
theorem Ext.b32 {gm bs n : Nat} {v : Int32} {G G' : RG} {f29 f30 f31 f32 f36 f37 f38 g29 g30 g31 g32 g36 g37 g38 : Nat → Int32} (e : Ext gm bs G f29 f30 f31 f32 f36 f37 f38 G' g29 g30 g31 g32 g36 g37 g38) (hg : gm ≤ n) (h4 : n < 2 ^ 31) : Ext gm bs G f29 f30 f31 f32 f36 f37 f38 G' g29 g30 g31 (upd g32 (nI n).toNatClampNeg v) g36 g37 g38 :=
  ⟨fun q hq => by rw [upd_at h4, if_neg (by omega)]; exact e.1 q hq, e.2⟩
theorem Ext.b30 {gm bs n : Nat} {v : Int32} {G G' : RG} {f29 f30 f31 f32 f36 f37 f38 g29 g30 g31 g32 g36 g37 g38 : Nat → Int32} (e : Ext gm bs G f29 f30 f31 f32 f36 f37 f38 G' g29 g30 g31 g32 g36 g37 g38) (hg : gm ≤ n) (h4 : n < 2 ^ 31) : Ext gm bs G f29 f30 f31 f32 f36 f37 f38 G' g29 (upd g30 (nI n).toNatClampNeg v) g31 g32 g36 g37 g38 :=
  ⟨fun q hq => by rw [upd_at h4, if_neg (by omega)]; exact e.1 q hq, e.2⟩
theorem RdV.node {T : Nat → Nat → Int32} {G : RG} {f29 f30 f31 f32 f36 f37 f38 : Nat → Int32} {se nd bs : Nat} {kv av bv cv : Int32} (h : RdV T G f29 f30 f31 f32 f36 f37 f38 se nd bs) (h4 : nd < 2 ^ 31) : RdV T G (upd f29 (nI nd).toNatClampNeg kv) (upd f30 (nI nd).toNatClampNeg av) (upd f31 (nI nd).toNatClampNeg bv) (upd f32 (nI nd).toNatClampNeg cv) f36 f37 f38 se (nd + 1) bs :=
  h.keep (fun n hn => by (have := (h.2.1 n hn).1); rw [upd_at h4, if_neg (by omega), upd_at h4, if_neg (by omega), upd_at h4, if_neg (by omega), upd_at h4, if_neg (by omega)]; exact ⟨rfl, rfl, rfl, rfl⟩) (fun _ _ => ⟨rfl, rfl, rfl⟩) (Nat.le_succ _) (Nat.le_refl _)
theorem RdV.b31 {T : Nat → Nat → Int32} {G : RG} {f29 f30 f31 f32 f36 f37 f38 : Nat → Int32} {se nd bs n : Nat} {v : Int32} (h : RdV T G f29 f30 f31 f32 f36 f37 f38 se nd bs) (hv : ¬ G.V n) (h4 : n < 2 ^ 31) : RdV T G f29 f30 (upd f31 (nI n).toNatClampNeg v) f32 f36 f37 f38 se nd bs :=
  h.keep (fun q hq => by rw [upd_at h4, if_neg (fun e : q = n => hv (e ▸ hq))]; exact ⟨rfl, rfl, rfl, rfl⟩) (fun _ _ => ⟨rfl, rfl, rfl⟩) (Nat.le_refl _) (Nat.le_refl _)
theorem RdV.b32 {T : Nat → Nat → Int32} {G : RG} {f29 f30 f31 f32 f36 f37 f38 : Nat → Int32} {se nd bs n : Nat} {v : Int32} (h : RdV T G f29 f30 f31 f32 f36 f37 f38 se nd bs) (hv : ¬ G.V n) (h4 : n < 2 ^ 31) : RdV T G f29 f30 f31 (upd f32 (nI n).toNatClampNeg v) f36 f37 f38 se nd bs :=
  h.keep (fun q hq => by rw [upd_at h4, if_neg (fun e : q = n => hv (e ▸ hq))]; exact ⟨rfl, rfl, rfl, rfl⟩) (fun _ _ => ⟨rfl, rfl, rfl⟩) (Nat.le_refl _) (Nat.le_refl _)
theorem RdV.b30 {T : Nat → Nat → Int32} {G : RG} {f29 f30 f31 f32 f36 f37 f38 : Nat → Int32} {se nd bs n : Nat} {v : Int32} (h : RdV T G f29 f30 f31 f32 f36 f37 f38 se nd bs) (hv : ¬ G.V n) (h4 : n < 2 ^ 31) : RdV T G f29 (upd f30 (nI n).toNatClampNeg v) f31 f32 f36 f37 f38 se nd bs :=
  h.keep (fun q hq => by rw [upd_at h4, if_neg (fun e : q = n => hv (e ▸ hq))]; exact ⟨rfl, rfl, rfl, rfl⟩) (fun _ _ => ⟨rfl, rfl, rfl⟩) (Nat.le_refl _) (Nat.le_refl _)
/-- a frame ends: its value is the frame's below it -/
theorem RdS.pop {T : Nat → Nat → Int32} {G G' : RG} {f29 f30 f31 f32 f36 f37 f38 f39 f40 f41 f42 f48 g29 g30 g31 g32 g36 g37 g38 g39 g40 g41 g42 g48 : Nat → Int32} {wd sg : Int32} {se bs bs' r0 d nd' bd' fn' M' ek cw u pe un gl ex c : Nat} (hV : RdV T G' g29 g30 g31 g32 g36 g37 g38 se nd' bs') (hB : RBel T G f29 f30 f31 f32 f36 f37 f38 f39 f40 f41 f42 f48 se bs r0 d ek cw u pe un gl) (e : Ext gl bs G f29 f30 f31 f32 f36 f37 f38 G' g29 g30 g31 g32 g36 g37 g38) (hb : bs ≤ bs') (hr : ∀ q, q < d → g39 q = f39 q ∧ g40 q = f40 q ∧ g41 q = f41 q ∧ g42 q = f42 q ∧ g48 q = f48 q) (h25 : cw + ex ≤ 25) (hex : ek ≠ 3 → ex = 1) (hek : ek ≤ 3)
    (hc : (ek ≤ 1 ∧ LinO G' g29 c (51 - 2 * (cw + ex))) ∨ (2 ≤ ek ∧ TruO G' g29 c (51 - 2 * (cw + ex)))) (hn : nd' + pe ≤ fn') (hv : G'.vN + un ≤ nd') (h5 : 5 * bs' ≤ fn') (hbd : bd' ≤ 2 + 2 * u) (hgl : gl ≤ nd') (hM : 10 * (4000 - fn') + d ≤ M') :
    RdS T G' g29 g30 g31 g32 g36 g37 g38 g39 g40 g41 g42 g48 wd sg (nI c) se bs' r0 d cw nd' bd' fn' M' := by
  refine ⟨hV, ?_⟩
  match d, hB, hr, hM with
  | 0, hB, _, _ =>
    obtain ⟨rfl, rfl, rfl, rfl, rfl⟩ := hB
    refine Or.inl ⟨rfl, rfl, by omega, by omega, h5, by omega, c, rfl, ?_⟩
    rcases hc with hc | hc
    · exact Or.inl ⟨hc.1, hc.2.mono (by omega)⟩
    · exact Or.inr ⟨hc.1, hc.2.mono (by omega)⟩
  | d + 1, hB, hr, hM =>
    obtain ⟨ek', cw', u', pe', un', gl', ex', p1, n1, m1, ⟨a1, a2, a3⟩, a4, a5, ⟨rfl, rfl, rfl, rfl⟩, a7⟩ := hB
    obtain ⟨r1, r2, r3, r4, r5⟩ := hr d (Nat.lt_succ_self d)
    refine Or.inr ⟨d, ek', cw', u', pe', un', gl', gl, ex', p1, n1, m1, 1, rfl, ⟨r1.trans a1, a2, r5.trans a3⟩, RBel.congr hb d ek' cw' u' pe' un' gl' a5 (e.less a4.1.2.2.2) (fun q hq => hr q (by omega)), ⟨a7, rfl⟩, Or.inr ⟨rfl, ek, a4.mono e hb r2 r3 r4, c, rfl, ?_⟩, by omega, by omega, h5, by omega, hgl, by omega⟩
    rcases hc with hc | hc
    · have := hex (by omega)
      exact Or.inl ⟨hc.1, by omega, hc.2.mono (by omega)⟩
    · by_cases h3 : ek = 3
      · exact Or.inr (Or.inr ⟨h3, by omega, hc.2.mono (by omega)⟩)
      · have := hex h3
        exact Or.inr (Or.inl ⟨by omega, by omega, hc.2.mono (by omega)⟩)
/-- a frame has been begun at dp -/
def BgO (rv wd sg : Int32) (g39 g40 g41 g42 g48 : Nat → Int32) (dp wi d2 w2 : Nat) : Prop := ∃ ex, (ex ≤ 1 ∧ (rv ≠ 3 → ex = 1) ∧ (wd = 2 → sg = 10 → ex = 1)) ∧ (w2 = wi + ex ∧ w2 ≤ 25 ∧ d2 = dp + 1) ∧ g39 dp = rv ∧ g40 dp = 0 ∧ g41 dp = -1 ∧ g42 dp = -1 ∧ g48 dp = nI ex
def FrmO (dp : Nat) (f39 f40 f41 f42 f48 g39 g40 g41 g42 g48 : Nat → Int32) : Prop := ∀ q, q ≠ dp → g39 q = f39 q ∧ g40 q = f40 q ∧ g41 q = f41 q ∧ g42 q = f42 q ∧ g48 q = f48 q
theorem RdS.push {T : Nat → Nat → Int32} {G G' : RG} {f29 f30 f31 f32 f36 f37 f38 f39 f40 f41 f42 f48 g29 g30 g31 g32 g36 g37 g38 h39 h40 h41 h42 h48 g39 g40 g41 g42 g48 : Nat → Int32} {rv wd sg res : Int32} {se bs bs' r0 d de' wi' nd' bd' fn' M' ek ck cw u pe un gl gm ex p1 n1 m1 : Nat} (hV : RdV T G' g29 g30 g31 g32 g36 g37 g38 se nd' bs') (hB : RBel T G f29 f30 f31 f32 f36 f37 f38 f39 f40 f41 f42 f48 se bs r0 d ek cw u pe un gl) (e : Ext gl bs G f29 f30 f31 f32 f36 f37 f38 G' g29 g30 g31 g32 g36 g37 g38) (hb : bs ≤ bs') (hr : ∀ q, q < d → h39 q = f39 q ∧ h40 q = f40 q ∧ h41 q = f41 q ∧ h42 q = f42 q ∧ h48 q = f48 q) (h39' : h39 d = nI ek) (hek : ek ≤ 3) (h48' : h48 d = nI ex) (h25 : cw + ex ≤ 25)
    (hW : RWt T G' g29 g30 g31 g32 g36 g37 g38 h40 h41 h42 se bs' d ek ck (cw + ex) u ex gl gm p1 n1 m1) (hF : FrmO (d + 1) h39 h40 h41 h42 h48 g39 g40 g41 g42 g48) (hG : BgO rv wd sg g39 g40 g41 g42 g48 (d + 1) (cw + ex) de' wi') (hrv : rv = nI ck) (hck : ck ≤ 3)
    (hn : nd' + pe + p1 ≤ fn') (hv : G'.vN + un + n1 ≤ nd') (h5 : 5 * bs' ≤ fn') (hbd : bd' ≤ 2 + 2 * (u + m1)) (hgm : gm ≤ nd') (hM : 10 * (4000 - fn') + d + 1 + (if ck = 0 then 3 else if ck = 1 then 1 else if ck = 2 then 7 else 5) ≤ M') :
    RdS T G' g29 g30 g31 g32 g36 g37 g38 g39 g40 g41 g42 g48 wd sg res se bs' r0 de' wi' nd' bd' fn' M' := by
  obtain ⟨ex2, ⟨b1, b2, b3⟩, ⟨b4, b5, b6⟩, b7, b8, b9, b10, b11⟩ := hG
  have hne : ck ≠ 3 → rv ≠ 3 := fun h1 h2 => h1 (nIinj (by omega) (by decide) (hrv.symm.trans h2))
  obtain ⟨q1, q2, q3, q4, q5⟩ := hF d (by omega)
  refine ⟨hV, Or.inr ⟨d + 1, ck, cw + ex, u + m1, pe + p1, un + n1, gm, gm, ex2, 0, 0, 0, (if ck = 0 then 3 else if ck = 1 then 1 else if ck = 2 then 7 else 5), b6, ⟨b7.trans hrv, hck, b11⟩,
    ⟨ek, cw, u, pe, un, gl, ex, p1, n1, m1, ⟨q1.trans h39', hek, q5.trans h48'⟩, hW.mono (Ext.refl ()) (Nat.le_refl _) q2 q3 q4, RBel.congr hb d ek cw u pe un gl hB e (fun q hq => ?_), ⟨rfl, rfl, rfl, rfl⟩, h25⟩, ⟨by omega, by omega⟩,
    Or.inl ⟨b8, b9, b10, ⟨rfl, rfl, rfl, rfl⟩, ⟨b1, fun h => b2 (hne h)⟩, fun _ => b3, ?_⟩, by omega, by omega, h5, by omega, hgm, by omega⟩⟩
  · obtain ⟨q1, q2, q3, q4, q5⟩ := hF q (by omega)
    obtain ⟨r1, r2, r3, r4, r5⟩ := hr q hq
    exact ⟨q1.trans r1, q2.trans r2, q3.trans r3, q4.trans r4, q5.trans r5⟩
  · have h9 : ck = 0 ∨ ck = 1 ∨ ck = 2 ∨ ck = 3 := by omega
    rcases h9 with rfl | rfl | rfl | rfl
    · exact Or.inl ⟨rfl, rfl⟩
    · exact Or.inr (Or.inl ⟨rfl, rfl⟩)
    · exact Or.inr (Or.inr (Or.inl ⟨rfl, rfl⟩))
    · exact Or.inr (Or.inr (Or.inr ⟨rfl, rfl⟩))
/-- the first frame -/
theorem RdS.first {T : Nat → Nat → Int32} {G : RG} {f29 f30 f31 f32 f36 f37 f38 g39 g40 g41 g42 g48 : Nat → Int32} {rv wd sg res : Int32} {se bs r0 de' wi' nd bd fn M' : Nat} (hV : RdV T G f29 f30 f31 f32 f36 f37 f38 se nd bs) (hG : BgO rv wd sg g39 g40 g41 g42 g48 0 0 de' wi') (hrv : rv = nI r0) (hck : r0 ≤ 3) (hn : nd ≤ fn) (hv : G.vN ≤ nd) (h5 : 5 * bs ≤ fn) (hbd : bd ≤ 2) (hM : 10 * (4000 - fn) + 7 ≤ M') :
    RdS T G f29 f30 f31 f32 f36 f37 f38 g39 g40 g41 g42 g48 wd sg res se bs r0 de' wi' nd bd fn M' := by
  obtain ⟨ex2, ⟨b1, b2, b3⟩, ⟨b4, b5, b6⟩, b7, b8, b9, b10, b11⟩ := hG
  have hne : r0 ≠ 3 → rv ≠ 3 := fun h1 h2 => h1 (nIinj (by omega) (by decide) (hrv.symm.trans h2))
  have h9 : r0 = 0 ∨ r0 = 1 ∨ r0 = 2 ∨ r0 = 3 := by omega
  refine ⟨hV, Or.inr ⟨0, r0, 0, 0, 0, 0, 0, 0, ex2, 0, 0, 0, (if r0 = 0 then 3 else if r0 = 1 then 1 else if r0 = 2 then 7 else 5), b6, ⟨b7.trans hrv, hck, b11⟩, ⟨rfl, rfl, rfl, rfl, rfl⟩, ⟨by omega, by omega⟩,
    Or.inl ⟨b8, b9, b10, ⟨rfl, rfl, rfl, rfl⟩, ⟨b1, fun h => b2 (hne h)⟩, fun _ => b3, ?_⟩, by omega, by omega, h5, by omega, by omega, ?_⟩⟩
  · rcases h9 with rfl | rfl | rfl | rfl
    · exact Or.inl ⟨rfl, rfl⟩
    · exact Or.inr (Or.inl ⟨rfl, rfl⟩)
    · exact Or.inr (Or.inr (Or.inl ⟨rfl, rfl⟩))
    · exact Or.inr (Or.inr (Or.inr ⟨rfl, rfl⟩))
  · rcases h9 with rfl | rfl | rfl | rfl
    · show 10 * (4000 - fn) + 0 + 3 ≤ M'; omega
    · show 10 * (4000 - fn) + 0 + 1 ≤ M'; omega
    · show 10 * (4000 - fn) + 0 + 7 ≤ M'; omega
    · show 10 * (4000 - fn) + 0 + 5 ≤ M'; omega
end
section
/-- the same letters at x and at y, n of them -/
def SmT (tp : Nat → Int32) (x n y m : Nat) : Prop := n = m ∧ ∀ q, q < n → tp (x + q) = tp (y + q)
/-- the word at fn .. an is the k-th of the names -/
def SmW (tp f g : Nat → Int32) (fn an k : Nat) : Prop := ∃ x y : Nat, f k = nI x ∧ g k = nI y ∧ x + y ≤ 4000 ∧ SmT tp x y fn (an - fn)
theorem nIinj' {a b : Nat} (ha : a ≤ 4000) (hb : b ≤ 4000) (h : nI a = nI b) : a = b := by
  have h := congrArg Int32.toInt h
  rw [nI_toInt (by omega), nI_toInt (by omega)] at h
  omega
theorem SmW.no {tp f g : Nat → Int32} {fn an k x y : Nat} (e1 : f k = nI x) (e2 : g k = nI y) (h4 : x + y ≤ 4000) (h : ¬ SmT tp x y fn (an - fn)) : ¬ SmW tp f g fn an k := fun ⟨x9, y9, h1, h2, h3, h5⟩ => by
  obtain rfl : x = x9 := nIinj' (by omega) (by omega) (e1.symm.trans h1)
  obtain rfl : y = y9 := nIinj' (by omega) (by omega) (e2.symm.trans h2)
  exact h h5
/-- a number or a bracket may begin here, or a name that is bound, or a number's or a variable's -/
def CbO (tp f10 f11 f12 f14 f15 : Nat → Int32) (fn an nm bd : Nat) : Prop := (∃ k, k < bd ∧ SmW tp f14 f15 fn an k) ∨ ∃ k, k < nm ∧ SmW tp f11 f12 fn an k ∧ (∀ j, j < k → ¬ SmW tp f11 f12 fn an j) ∧ (f10 k = 2 ∨ f10 k = 3)
def CbQ (wd : Int32) (tp f10 f11 f12 f14 f15 : Nat → Int32) (fn an nm bd : Nat) : Prop := wd.toInt = 1 → CbO tp f10 f11 f12 f14 f15 fn an nm bd
def CbW (wd sg : Int32) : Prop := wd.toInt = 3 ∨ wd.toInt = 1 ∨ (wd.toInt = 4 ∧ sg = 45) ∨ (wd.toInt = 4 ∧ sg = 40) ∨ (wd.toInt = 2 ∧ sg = 12)
end
section
def wsRsameTextf : List Cond := .code yX12_sameText cX12_sameText 7 (some .boolean) :: ([.fieldLink RX12 39 "OptimaWorksModel" "tape" "[B"] ++ wsX120)
theorem iwsRsameTextf_in12 : ∀ w ∈ wsX120, w ∈ wsRsameTextf := fun _ h => List.mem_cons_of_mem _ (List.mem_append_right _ h)
theorem gdwsRsameTextf : wsRsameTextf.all goodWord = true := gdC rfl (gdA (by decide +kernel : ([.fieldLink RX12 39 "OptimaWorksModel" "tape" "[B"] : List Cond).all goodWord = true) gdwsX120)
theorem hm_r_X12_sameTextf_0 : (.fieldLink RX12 39 "OptimaWorksModel" "tape" "[B" : Cond) ∈ wsRsameTextf := by decide +kernel
set_option maxHeartbeats 4000000 in
set_option maxRecDepth 100000 in
/-- sameText(a, n, b, m), told -/
theorem r_X12_sameTextf (l : Launch) (dC : Nat → ClassId) (dI : Nat → Nat → Nat) (a : Nat → Nat) (k : Nat → ClassId) (h0 : Nat) (vi : Nat → Int32) (vj : Nat → Int64) (vF : Nat → Nat → Int32) (vG : Nat → Nat → Int64) (xa : Nat) (xn : Nat) (xb : Nat) (xm : Nat) (h1 : xa + xn ≤ 4000) (h2 : xb + xm ≤ 4000) (sz : Nat) : Met l yX12_sameText wsRsameTextf ({ frames := 0, cells := 0, slots := 0, locals := 0 }) (va_Pc [.ref h0, .int (nI xa), .int (nI xn), .int (nI xb), .int (nI xm)] (fun U => U.heap.size = sz ∧ va_P (dC, dI) vwCl (WR a k h0 vi vj vF vG) U.heap ∧ va_K (dC, dI) vwCl (tX12 k) U ∧ va_D (fun _ => True) (WR a k h0 vi vj vF vG))) (va_Qi (fun (r : Int32) (u : Unit) => (((r) = 0 ∧ ¬ SmT (vF 9) xa xn xb xm) ∨ ((r) = 1 ∧ SmT (vF 9) xa xn xb xm))) (fun (u : Unit) t => va_P (dC, dI) vwCl (WR a k h0 vi vj vF vG) t.heap ∧ va_D (va_A (WR a k h0 vi vj vF vG) sz) (WR a k h0 vi vj vF vG)) (va_A (WR a k h0 vi vj vF vG) sz)) 0 0 (va_A (WR a k h0 vi vj vF vG) sz) := by
  refine Met.ofW (cc := cX12_sameText) (maxL := 7) (ret := (some .boolean)) (by decide) rfl ?_
  intro p e s m args below meth c s₁ B hml hv
  obtain ⟨rfl, hsz, hP, hK, hD0⟩ := hv
  have hx := B.exec
  have hb := B.bytes
  have hr := B.returns
  have hts := atoms_spec (ws := wsRsameTextf) B.pre
  have hown : s.vm.findClass RX12 = some m.cls := findClass_of_methodNamed B.named
  have hlocks := B.notSynchronized
  subst hsz
  have hD := hD0.self (sz := s.heap.size)
  generalize hAe : va_A (WR a k h0 vi vj vF vG) s.heap.size = A at hD ⊢
  have hA : ∀ q : Nat, s.heap.size ≤ q → A q := fun q h => by rw [← hAe]; exact Or.inr h
  have hS : va_S A s.heap s.heap [] := va_S.rf
  have hl := lv_entry ([.ref h0, .int (nI xa), .int (nI xn), .int (nI xb), .int (nI xm)]) (n := 7) (Nat.le_of_ble_eq_true rfl)
  rw [lg_entry_eq]
  generalize (lg_sl ([.ref h0, .int (nI xa), .int (nI xn), .int (nI xb), .int (nI xm)]) ++ List.replicate (7 - (lg_sl ([.ref h0, .int (nI xa), .int (nI xn), .int (nI xb), .int (nI xm)])).length) Slot.unset).toArray = ls at hl ⊢
  have hl : lv_has ls 7 [(0, .ref h0), (1, .int (nI xa)), (2, .int (nI xn)), (3, .int (nI xb)), (4, .int (nI xm))] := hl
  refine lv_iload_n hx hb dX12_sameText_0 rfl (lv_at hl 2 rfl) ?_
  refine lv_iload hx hb dX12_sameText_1 (lv_at hl 4 rfl) ?_
  refine W.cut (pc := 13) (fun H locs ls stk => ∃ (zq : Int32), ((zq = 0 ∧ ¬ SmT (vF 9) xa xn xb xm) ∨ (zq = 1 ∧ xn = xm ∧ ∀ q, q < 0 → (vF 9) (xa + q) = (vF 9) (xb + q))) ∧  stk = [] ∧ va_P (dC, dI) vwCl (WR a k h0 vi vj vF vG) H ∧ va_D A (WR a k h0 vi vj vF vG) ∧ va_S A s.heap H locs ∧ lv_has ls 7 [(0, .ref h0), (1, .int (nI xa)), (2, .int (nI xn)), (3, .int (nI xb)), (5, .int zq)]) (fun join1 => ?_) ?_
  · refine lv_icmp_ne (tgt := 10) hx hb dX12_sameText_3 (by decide) (fun c_3 => ?_) (fun c_3 => ?_)
    · have t_3 : ((xn : Nat) : Int) ≠ ((xm : Nat) : Int) := toI_ne c_3 (nI_toInt (by omega)) (nI_toInt (by omega))
      refine lv_iconst (v := 0) hx hb dX12_sameText_10 (by decide) ?_
      refine lv_istore hx hb dX12_sameText_11 hl (by decide) rfl (fun ls (hl : lv_has ls _ ([(5, .int 0), (0, .ref h0), (1, .int (nI xa)), (2, .int (nI xn)), (3, .int (nI xb)), (4, .int (nI xm))])) => ?_)
      have hl : lv_has _ _ ([(0, .ref h0), (1, .int (nI xa)), (2, .int (nI xn)), (3, .int (nI xb)), (5, .int 0)]) := lv_sub hl [1, 2, 3, 4, 0] rfl
      exact join1 _ _ _ _ ⟨0, Or.inl ⟨rfl, fun h9 => absurd h9.1 (by omega)⟩, rfl, hP, hD, hS, hl⟩
    · have t_3 : ((xn : Nat) : Int) = ((xm : Nat) : Int) := toI_nne c_3 (nI_toInt (by omega)) (nI_toInt (by omega))
      refine lv_iconst (v := 1) hx hb dX12_sameText_6 (by decide) ?_
      refine lv_goto (tgt := 11) hx hb dX12_sameText_7 (by decide) ?_
      refine lv_istore hx hb dX12_sameText_11 hl (by decide) rfl (fun ls (hl : lv_has ls _ ([(5, .int 1), (0, .ref h0), (1, .int (nI xa)), (2, .int (nI xn)), (3, .int (nI xb)), (4, .int (nI xm))])) => ?_)
      have hl : lv_has _ _ ([(0, .ref h0), (1, .int (nI xa)), (2, .int (nI xn)), (3, .int (nI xb)), (5, .int 1)]) := lv_sub hl [1, 2, 3, 4, 0] rfl
      exact join1 _ _ _ _ ⟨1, Or.inr ⟨rfl, by omega, fun q hq => absurd hq (by omega)⟩, rfl, hP, hD, hS, hl⟩
  · rintro H locs ls stk ⟨zq, hzq, rfl, hP, hD, hS, hl⟩
    refine lv_iconst (v := 0) hx hb dX12_sameText_13 (by decide) ?_
    refine lv_istore hx hb dX12_sameText_14 hl (by decide) rfl (fun ls (hl : lv_has ls _ ([(6, .int 0), (0, .ref h0), (1, .int (nI xa)), (2, .int (nI xn)), (3, .int (nI xb)), (5, .int zq)])) => ?_)
    have hl : lv_has _ _ ([(0, .ref h0), (1, .int (nI xa)), (2, .int (nI xn)), (3, .int (nI xb)), (5, .int zq), (6, .int (nI 0))]) := lv_sub hl [1, 2, 3, 4, 5, 0] rfl
    refine (fun (loop : ∀ (n9 : Nat) (k5 : Nat) (zw : Int32) (H : Heap) (locs : List Loc) (ls : Array Slot), (k5 ≤ xn) → ((zw = 0 ∧ ¬ SmT (vF 9) xa xn xb xm) ∨ (zw = 1 ∧ xn = xm ∧ ∀ q, q < k5 → (vF 9) (xa + q) = (vF 9) (xb + q))) →  (xn < k5 + n9) → va_P (dC, dI) vwCl (WR a k h0 vi vj vF vG) H → va_D A (WR a k h0 vi vj vF vG) → va_S A s.heap H locs → lv_has ls 7 [(0, .ref h0), (1, .int (nI xa)), (2, .int (nI xn)), (3, .int (nI xb)), (5, .int zw), (6, .int (nI k5))] → W p l e _ s m _ below meth c H locs 0 0 _ (F0 m 16 ls [])) => loop (xn + 1) 0 zq _ _ _ (by omega) (hzq) (by omega) hP hD hS hl) ?_
    intro n9
    induction n9 with
    | zero => intro k5 zw H locs ls hk5 hzw hf9; exact False.elim (by omega)
    | succ n9 ih16 =>
      intro k5 zw H locs ls hk5 hzw hf16 hP hD hS hl
      refine lv_iload hx hb dX12_sameText_16 (lv_at hl 5 rfl) ?_
      refine lv_iload_n hx hb dX12_sameText_18 rfl (lv_at hl 2 rfl) ?_
      refine lv_icmp_ge (tgt := 61) hx hb dX12_sameText_19 (by decide) (fun c_19 => ?_) (fun c_19 => ?_)
      · have t_19 : ((k5 : Nat) : Int) ≥ ((xn : Nat) : Int) := toI_ge c_19 (nI_toInt (by omega)) (nI_toInt (by omega))
        refine lv_iload hx hb dX12_sameText_61 (lv_at hl 4 rfl) ?_
        refine W.widen (k := 0) (n := 0) (by decide +kernel) (by decide +kernel) ?_
        exact W.zret (v := zw) hx hb hr (by rcases hzw with h9 | h9; (rw [h9.1]; rfl); (rw [h9.1]; rfl)) (fun t9_ ht hW => ⟨⟨zw, (), rfl, by (try dsimp only); (rcases hzw with h9 | h9); (exact Or.inl h9); (exact Or.inr ⟨h9.1, h9.2.1, fun q hq => h9.2.2 q (by omega)⟩), by rw [ht]; exact hP, hD⟩, hS.F ht⟩) hS.2.2 dX12_sameText_63
      · have t_19 : ¬ ((k5 : Nat) : Int) ≥ ((xn : Nat) : Int) := toI_nge c_19 (nI_toInt (by omega)) (nI_toInt (by omega))
        refine lv_iload hx hb dX12_sameText_22 (lv_at hl 4 rfl) ?_
        refine lv_if_eq (tgt := 61) hx hb dX12_sameText_24 (by decide) (fun c_24 => ?_) (fun c_24 => ?_)
        · have t_24 : (zw).toInt = 0 := toI_eq c_24 rfl (by decide)
          refine lv_iload hx hb dX12_sameText_61 (lv_at hl 4 rfl) ?_
          refine W.widen (k := 0) (n := 0) (by decide +kernel) (by decide +kernel) ?_
          exact W.zret (v := zw) hx hb hr (by rcases hzw with h9 | h9; (rw [h9.1]; rfl); (rw [h9.1]; rfl)) (fun t9_ ht hW => ⟨⟨zw, (), rfl, by (try dsimp only); (rcases hzw with h9 | h9); (exact Or.inl h9); (exact absurd (h9.1.symm.trans c_24) (by decide)), by rw [ht]; exact hP, hD⟩, hS.F ht⟩) hS.2.2 dX12_sameText_63
        · have t_24 : ¬ (zw).toInt = 0 := toI_neq c_24 rfl (by decide)
          have hm9 := (hzw.resolve_left (fun h => c_24 h.1)).2
          refine lv_aload_n hx hb dX12_sameText_27 rfl (lv_at hl 0 rfl) ?_
          refine va_get (D := (dC, dI)) (ci := 12) (v := .ref (a 9)) (C := RX12) (T := TX12) (N := 163) (fs := fM (vS a vi vj)) hx hb hts iwsRsameTextf_in12 hown hK hP 0 rfl rfl 15 (by decide) (hts _ hm_r_X12_sameTextf_0) (fun _ h9 => h9) rfl dX12_sameText_28 ?_
          refine lv_iload_n hx hb dX12_sameText_31 rfl (lv_at hl 1 rfl) ?_
          refine lv_iload hx hb dX12_sameText_32 (lv_at hl 5 rfl) ?_
          refine lv_iadd hx hb dX12_sameText_34 ?_
          refine lv_topi (fun y1 hy1 => ?_)
          obtain rfl : (nI (xa + k5)) = y1 := (hy1.trans (nI_add xa k5)).symm
          refine va_bald (cA := k 9) (n := 4000) (f := (vF 9)) hx hb hK hP 10 9 (WR_get 9 (by decide)) (TR_get 9 (by decide)) (vp_in_nI (show (xa + k5) < 4000 by omega) (by omega)) dX12_sameText_35 ?_
          refine lv_topi (fun y2 hy2 => ?_)
          obtain rfl : ((vF 9) (xa + k5)) = y2 := (hy2.trans (by rw [nI_clamp (by omega)])).symm
          have hm8 := hm9.1
          refine lv_aload_n hx hb dX12_sameText_36 rfl (lv_at hl 0 rfl) ?_
          refine va_get (D := (dC, dI)) (ci := 12) (v := .ref (a 9)) (C := RX12) (T := TX12) (N := 163) (fs := fM (vS a vi vj)) hx hb hts iwsRsameTextf_in12 hown hK hP 0 rfl rfl 15 (by decide) (hts _ hm_r_X12_sameTextf_0) (fun _ h9 => h9) rfl dX12_sameText_37 ?_
          refine lv_iload_n hx hb dX12_sameText_40 rfl (lv_at hl 3 rfl) ?_
          refine lv_iload hx hb dX12_sameText_41 (lv_at hl 5 rfl) ?_
          refine lv_iadd hx hb dX12_sameText_43 ?_
          refine lv_topi (fun y3 hy3 => ?_)
          obtain rfl : (nI (xb + k5)) = y3 := (hy3.trans (nI_add xb k5)).symm
          refine va_bald (cA := k 9) (n := 4000) (f := (vF 9)) hx hb hK hP 10 9 (WR_get 9 (by decide)) (TR_get 9 (by decide)) (vp_in_nI (show (xb + k5) < 4000 by omega) (by omega)) dX12_sameText_44 ?_
          refine lv_topi (fun y4 hy4 => ?_)
          obtain rfl : ((vF 9) (xb + k5)) = y4 := (hy4.trans (by rw [nI_clamp (by omega)])).symm
          refine lv_icmp_ne (tgt := 52) hx hb dX12_sameText_45 (by decide) (fun c_45 => ?_) (fun c_45 => ?_)
          · have t_45 : (((vF 9) (xa + k5))).toInt ≠ (((vF 9) (xb + k5))).toInt := toI_ne c_45 rfl rfl
            refine lv_iconst (v := 0) hx hb dX12_sameText_52 (by decide) ?_
            refine lv_istore hx hb dX12_sameText_53 hl (by decide) rfl (fun ls (hl : lv_has ls _ ([(5, .int 0), (0, .ref h0), (1, .int (nI xa)), (2, .int (nI xn)), (3, .int (nI xb)), (6, .int (nI k5))])) => ?_)
            refine lv_iinc (v := (nI (k5 + 1))) hx hb dX12_sameText_55 hl (k := 5) rfl (nI_add k5 1) (by decide) rfl (fun ls (hl : lv_has ls _ ([(6, .int (nI (k5 + 1))), (5, .int 0), (0, .ref h0), (1, .int (nI xa)), (2, .int (nI xn)), (3, .int (nI xb))])) => ?_)
            refine lv_goto (tgt := 16) hx hb dX12_sameText_58 (by decide) ?_
            have hl : lv_has _ _ ([(0, .ref h0), (1, .int (nI xa)), (2, .int (nI xn)), (3, .int (nI xb)), (5, .int 0), (6, .int (nI (k5 + 1)))]) := lv_sub hl [2, 3, 4, 5, 1, 0] rfl
            exact ih16 (k5 + 1) 0 _ _ _ (by omega) (Or.inl ⟨rfl, fun h9 => c_45 (h9.2 k5 (by omega))⟩) (by omega) hP hD hS hl
          · have t_45 : (((vF 9) (xa + k5))).toInt = (((vF 9) (xb + k5))).toInt := toI_nne c_45 rfl rfl
            refine lv_iconst (v := 1) hx hb dX12_sameText_48 (by decide) ?_
            refine lv_goto (tgt := 53) hx hb dX12_sameText_49 (by decide) ?_
            refine lv_istore hx hb dX12_sameText_53 hl (by decide) rfl (fun ls (hl : lv_has ls _ ([(5, .int 1), (0, .ref h0), (1, .int (nI xa)), (2, .int (nI xn)), (3, .int (nI xb)), (6, .int (nI k5))])) => ?_)
            refine lv_iinc (v := (nI (k5 + 1))) hx hb dX12_sameText_55 hl (k := 5) rfl (nI_add k5 1) (by decide) rfl (fun ls (hl : lv_has ls _ ([(6, .int (nI (k5 + 1))), (5, .int 1), (0, .ref h0), (1, .int (nI xa)), (2, .int (nI xn)), (3, .int (nI xb))])) => ?_)
            refine lv_goto (tgt := 16) hx hb dX12_sameText_58 (by decide) ?_
            have hl : lv_has _ _ ([(0, .ref h0), (1, .int (nI xa)), (2, .int (nI xn)), (3, .int (nI xb)), (5, .int 1), (6, .int (nI (k5 + 1)))]) := lv_sub hl [2, 3, 4, 5, 1, 0] rfl
            exact ih16 (k5 + 1) 1 _ _ _ (by omega) (Or.inr ⟨rfl, hm9.1, fun q hq => by by_cases e9 : q = k5; (rw [e9]; exact c_45); (exact hm9.2 q (by omega))⟩) (by omega) hP hD hS hl
def wsRdeclaredf : List Cond := .code yX12_declared cX12_declared 2 (some .int) :: ([.fieldLink RX12 533 "OptimaWorksModel" "names" "I", .fieldLink RX12 53 "OptimaWorksModel" "nameFrom" "[I", .fieldLink RX12 56 "OptimaWorksModel" "nameLong" "[I", .fieldLink RX12 488 "OptimaWorksModel" "from" "I", .fieldLink RX12 485 "OptimaWorksModel" "at0" "I"] ++ wsX120 ++ (wsV RX12 536 RX12 yX12_sameText wsRsameTextf))
theorem iwsRdeclaredf_in12 : ∀ w ∈ wsX120, w ∈ wsRdeclaredf := fun _ h => List.mem_cons_of_mem _ (List.mem_append_left _ (List.mem_append_right _ h))
theorem gwsRdeclaredf_0 : GoodIn wsRdeclaredf (wsV RX12 536 RX12 yX12_sameText wsRsameTextf) := goodIn_sub (fun _ h => List.mem_cons_of_mem _ (List.mem_append_right _ h)) (gdV (by decide +kernel) gdwsRsameTextf)
theorem gdwsRdeclaredf : wsRdeclaredf.all goodWord = true := gdC rfl (gdA (gdA (by decide +kernel : ([.fieldLink RX12 533 "OptimaWorksModel" "names" "I", .fieldLink RX12 53 "OptimaWorksModel" "nameFrom" "[I", .fieldLink RX12 56 "OptimaWorksModel" "nameLong" "[I", .fieldLink RX12 488 "OptimaWorksModel" "from" "I", .fieldLink RX12 485 "OptimaWorksModel" "at0" "I"] : List Cond).all goodWord = true) gdwsX120) (gdV (by decide +kernel) gdwsRsameTextf))
theorem hm_r_X12_declaredf_0 : (.fieldLink RX12 488 "OptimaWorksModel" "from" "I" : Cond) ∈ wsRdeclaredf := by decide +kernel
set_option maxHeartbeats 4000000 in
set_option maxRecDepth 100000 in
/-- declared(), told -/
theorem r_X12_declaredf (l : Launch) (dC : Nat → ClassId) (dI : Nat → Nat → Nat) (a : Nat → Nat) (k : Nat → ClassId) (h0 : Nat) (vi : Nat → Int32) (vj : Nat → Int64) (vF : Nat → Nat → Int32) (vG : Nat → Nat → Int64) (an : Nat) (fn : Nat) (nm : Nat) (ha0 : vi 17 = nI an) (hfr : vi 19 = nI fn) (hfa : fn ≤ an) (han : an ≤ 4000) (hnm : vi 25 = nI nm) (hnm9 : nm ≤ 44) (hno : NmO (vF 11) (vF 12) nm) (sz : Nat) : Met l yX12_declared wsRdeclaredf ({ frames := 1, cells := 0, slots := 0, locals := 26 }) (va_Pc [.ref h0] (fun U => U.heap.size = sz ∧ va_P (dC, dI) vwCl (WR a k h0 vi vj vF vG) U.heap ∧ va_K (dC, dI) vwCl (tX12 k) U ∧ va_D (fun _ => True) (WR a k h0 vi vj vF vG))) (va_Qi (fun (r : Int32) (u : Nat) => (r = (-1) ∧ (∀ k, k < nm → ¬ SmW (vF 9) (vF 11) (vF 12) fn an k)) ∨ (r = (nI u) ∧ (u < nm) ∧ (SmW (vF 9) (vF 11) (vF 12) fn an u) ∧ (∀ k, k < u → ¬ SmW (vF 9) (vF 11) (vF 12) fn an k))) (fun (u : Nat) t => va_P (dC, dI) vwCl (WR a k h0 vi vj vF vG) t.heap ∧ va_D (va_A (WR a k h0 vi vj vF vG) sz) (WR a k h0 vi vj vF vG)) (va_A (WR a k h0 vi vj vF vG) sz)) 0 0 (va_A (WR a k h0 vi vj vF vG) sz) := by
  refine Met.ofW (cc := cX12_declared) (maxL := 2) (ret := (some .int)) (by decide) rfl ?_
  intro p e s m args below meth c s₁ B hml hv
  obtain ⟨rfl, hsz, hP, hK, hD0⟩ := hv
  have hx := B.exec
  have hb := B.bytes
  have hr := B.returns
  have hts := atoms_spec (ws := wsRdeclaredf) B.pre
  have hown : s.vm.findClass RX12 = some m.cls := findClass_of_methodNamed B.named
  have hlocks := B.notSynchronized
  subst hsz
  have hD := hD0.self (sz := s.heap.size)
  generalize hAe : va_A (WR a k h0 vi vj vF vG) s.heap.size = A at hD ⊢
  have hA : ∀ q : Nat, s.heap.size ≤ q → A q := fun q h => by rw [← hAe]; exact Or.inr h
  have hS : va_S A s.heap s.heap [] := va_S.rf
  have hl := lv_entry ([.ref h0]) (n := 2) (Nat.le_of_ble_eq_true rfl)
  rw [lg_entry_eq]
  generalize (lg_sl ([.ref h0]) ++ List.replicate (2 - (lg_sl ([.ref h0])).length) Slot.unset).toArray = ls at hl ⊢
  have hl : lv_has ls 2 [(0, .ref h0)] := hl
  refine lv_iconst (v := 0) hx hb dX12_declared_0 (by decide) ?_
  refine lv_istore_n hx hb dX12_declared_1 rfl hl (by decide) rfl (fun ls (hl : lv_has ls _ ([(1, .int 0), (0, .ref h0)])) => ?_)
  have hl : lv_has _ _ ([(0, .ref h0), (1, .int (nI 0))]) := lv_sub hl [1, 0] rfl
  refine (fun (loop : ∀ (n9 : Nat) (k5 : Nat) (H : Heap) (locs : List Loc) (ls : Array Slot), (k5 ≤ nm) → (∀ k, k < k5 → ¬ SmW (vF 9) (vF 11) (vF 12) fn an k) →  (nm < k5 + n9) → va_P (dC, dI) vwCl (WR a k h0 vi vj vF vG) H → va_D A (WR a k h0 vi vj vF vG) → va_S A s.heap H locs → lv_has ls 2 [(0, .ref h0), (1, .int (nI k5))] → W p l e _ s m _ below meth c H locs 0 0 _ (F0 m 2 ls [])) => loop (nm + 1) 0 _ _ _ (by omega) (fun k hk => absurd hk (by omega)) (by omega) hP hD hS hl) ?_
  intro n9
  induction n9 with
  | zero => intro k5 H locs ls hk5 hnk hf9; exact False.elim (by omega)
  | succ n9 ih2 =>
    intro k5 H locs ls hk5 hnk hf2 hP hD hS hl
    refine lv_iload_n hx hb dX12_declared_2 rfl (lv_at hl 1 rfl) ?_
    refine lv_aload_n hx hb dX12_declared_3 rfl (lv_at hl 0 rfl) ?_
    refine va_get (D := (dC, dI)) (ci := 12) (v := .int (vi 25)) (C := RX12) (T := TX12) (N := 163) (fs := fM (vS a vi vj)) hx hb hts iwsRdeclaredf_in12 hown hK hP 0 rfl rfl 25 (by decide) (hts (.fieldLink RX12 533 "OptimaWorksModel" "names" "I") (by decide +kernel)) (fun _ h9 => h9) rfl dX12_declared_4 ?_
    refine lv_topi (fun y1 hy1 => ?_)
    obtain rfl : (nI nm) = y1 := (hy1.trans (hnm)).symm
    refine lv_icmp_ge (tgt := 50) hx hb dX12_declared_7 (by decide) (fun c_7 => ?_) (fun c_7 => ?_)
    · have t_7 : ((k5 : Nat) : Int) ≥ ((nm : Nat) : Int) := toI_ge c_7 (nI_toInt (by omega)) (nI_toInt (by omega))
      refine lv_iconst (v := (-1)) hx hb dX12_declared_50 (by decide) ?_
      refine W.widen (k := 0) (n := 0) (by decide +kernel) (by decide +kernel) ?_
      exact W.iret (v := (-1)) hx hb hr (fun t9_ ht hW => ⟨⟨(-1), 0, rfl, by (try dsimp only); exact Or.inl ⟨rfl, fun k hk => hnk k (by omega)⟩, by rw [ht]; exact hP, hD⟩, hS.F ht⟩) hS.2.2 dX12_declared_51
    · have t_7 : ¬ ((k5 : Nat) : Int) ≥ ((nm : Nat) : Int) := toI_nge c_7 (nI_toInt (by omega)) (nI_toInt (by omega))
      obtain ⟨x9, y9, ex, ey, exy⟩ := hno k5 (by omega)
      refine lv_aload_n hx hb dX12_declared_10 rfl (lv_at hl 0 rfl) ?_
      refine lv_aload_n hx hb dX12_declared_11 rfl (lv_at hl 0 rfl) ?_
      refine va_get (D := (dC, dI)) (ci := 12) (v := .ref (a 11)) (C := RX12) (T := TX12) (N := 163) (fs := fM (vS a vi vj)) hx hb hts iwsRdeclaredf_in12 hown hK hP 0 rfl rfl 27 (by decide) (hts (.fieldLink RX12 53 "OptimaWorksModel" "nameFrom" "[I") (by decide +kernel)) (fun _ h9 => h9) rfl dX12_declared_12 ?_
      refine lv_iload_n hx hb dX12_declared_15 rfl (lv_at hl 1 rfl) ?_
      refine va_iald (cA := k 11) (n := 44) (f := (vF 11)) hx hb hK hP 12 11 (WR_get 11 (by decide)) (TR_get 11 (by decide)) (vp_in_nI (show k5 < 44 by omega) (by omega)) dX12_declared_16 ?_
      refine lv_topi (fun y2 hy2 => ?_)
      obtain rfl : ((vF 11) k5) = y2 := (hy2.trans (by rw [nI_clamp (by omega)])).symm
      refine lv_topi (fun y3 hy3 => ?_)
      obtain rfl : (nI x9) = y3 := (hy3.trans (ex)).symm
      refine lv_aload_n hx hb dX12_declared_17 rfl (lv_at hl 0 rfl) ?_
      refine va_get (D := (dC, dI)) (ci := 12) (v := .ref (a 12)) (C := RX12) (T := TX12) (N := 163) (fs := fM (vS a vi vj)) hx hb hts iwsRdeclaredf_in12 hown hK hP 0 rfl rfl 28 (by decide) (hts (.fieldLink RX12 56 "OptimaWorksModel" "nameLong" "[I") (by decide +kernel)) (fun _ h9 => h9) rfl dX12_declared_18 ?_
      refine lv_iload_n hx hb dX12_declared_21 rfl (lv_at hl 1 rfl) ?_
      refine va_iald (cA := k 12) (n := 44) (f := (vF 12)) hx hb hK hP 13 12 (WR_get 12 (by decide)) (TR_get 12 (by decide)) (vp_in_nI (show k5 < 44 by omega) (by omega)) dX12_declared_22 ?_
      refine lv_topi (fun y4 hy4 => ?_)
      obtain rfl : ((vF 12) k5) = y4 := (hy4.trans (by rw [nI_clamp (by omega)])).symm
      refine lv_topi (fun y5 hy5 => ?_)
      obtain rfl : (nI y9) = y5 := (hy5.trans (ey)).symm
      refine lv_aload_n hx hb dX12_declared_23 rfl (lv_at hl 0 rfl) ?_
      refine va_get (D := (dC, dI)) (ci := 12) (v := .int (vi 19)) (C := RX12) (T := TX12) (N := 163) (fs := fM (vS a vi vj)) hx hb hts iwsRdeclaredf_in12 hown hK hP 0 rfl rfl 19 (by decide) (hts _ hm_r_X12_declaredf_0) (fun _ h9 => h9) rfl dX12_declared_24 ?_
      refine lv_topi (fun y6 hy6 => ?_)
      obtain rfl : (nI fn) = y6 := (hy6.trans (hfr)).symm
      refine lv_aload_n hx hb dX12_declared_27 rfl (lv_at hl 0 rfl) ?_
      refine va_get (D := (dC, dI)) (ci := 12) (v := .int (vi 17)) (C := RX12) (T := TX12) (N := 163) (fs := fM (vS a vi vj)) hx hb hts iwsRdeclaredf_in12 hown hK hP 0 rfl rfl 17 (by decide) (hts (.fieldLink RX12 485 "OptimaWorksModel" "at0" "I") (by decide +kernel)) (fun _ h9 => h9) rfl dX12_declared_28 ?_
      refine lv_topi (fun y7 hy7 => ?_)
      obtain rfl : (nI an) = y7 := (hy7.trans (ha0)).symm
      refine lv_aload_n hx hb dX12_declared_31 rfl (lv_at hl 0 rfl) ?_
      refine va_get (D := (dC, dI)) (ci := 12) (v := .int (vi 19)) (C := RX12) (T := TX12) (N := 163) (fs := fM (vS a vi vj)) hx hb hts iwsRdeclaredf_in12 hown hK hP 0 rfl rfl 19 (by decide) (hts _ hm_r_X12_declaredf_0) (fun _ h9 => h9) rfl dX12_declared_32 ?_
      refine lv_topi (fun y8 hy8 => ?_)
      obtain rfl : (nI fn) = y8 := (hy8.trans (hfr)).symm
      refine lv_isub hx hb dX12_declared_35 ?_
      refine lv_topi (fun y9 hy9 => ?_)
      obtain rfl : (nI (an - fn)) = y9 := (hy9.trans (pk_sub (a := an) (b := fn) (by omega))).symm
      have hFc := allFree hD hS hA
      refine va_calli (va_runV (As := [.int (nI x9), .int (nI y9), .int (nI fn), .int (nI (an - fn))]) (rest := []) ⟨hx, hb, hml, hown, hts⟩ (r_X12_sameTextf l dC dI a k h0 vi vj vF vG x9 y9 fn (an - fn) (by first | with_reducible assumption | decide | omega | rfl | assumption) (by omega) H.size) (cwV 4 hts gwsRdeclaredf_0 rfl rfl rfl hd_yX12_sameText_RX12 (by decide +kernel)) (fz_pre (va_recv hK hP (ci := 12) (q0 := 0) rfl rfl) hP hK hD) rfl rfl hl.1 rfl (lv_room (Nat.le_of_ble_eq_true rfl)) dX12_declared_36 (by decide +kernel)) hS (fun q _ h => hFc q h) hFc (fun r36 u t9_ H locs ht hvm hw9 hB9 hz1 hk1 hS => ?_)
      have hP : va_P (dC, dI) vwCl (WR a k h0 vi vj vF vG) H := fz_P ht hB9.1
      have hD := fz_sd hP (hB9.2.weaken (fun _ q _ h => hFc q.1 h)) rfl
      have f36_0 := hw9
      try dsimp only at f36_0
      have f36_0 : ((r36) = 0 ∧ ¬ SmT (vF 9) x9 y9 fn (an - fn)) ∨ ((r36) = 1 ∧ SmT (vF 9) x9 y9 fn (an - fn)) := f36_0
      refine lv_if_eq (tgt := 44) hx hb dX12_declared_39 (by decide) (fun c_39 => ?_) (fun c_39 => ?_)
      · have t_39 : (r36).toInt = 0 := toI_eq c_39 rfl (by decide)
        refine lv_iinc (v := (nI (k5 + 1))) hx hb dX12_declared_44 hl (k := 1) rfl (nI_add k5 1) (by decide) rfl (fun ls (hl : lv_has ls _ ([(1, .int (nI (k5 + 1))), (0, .ref h0)])) => ?_)
        refine lv_goto (tgt := 2) hx hb dX12_declared_47 (by decide) ?_
        have hl : lv_has _ _ ([(0, .ref h0), (1, .int (nI (k5 + 1)))]) := lv_sub hl [1, 0] rfl
        exact ih2 (k5 + 1) _ _ _ (by omega) (fun k hk => by by_cases e9 : k = k5; (rw [e9]; exact SmW.no ex ey exy ((f36_0).resolve_right (fun h => absurd (h.1.symm.trans c_39) (by decide))).2); (exact hnk k (by omega))) (by omega) hP hD hS hl
      · have t_39 : ¬ (r36).toInt = 0 := toI_neq c_39 rfl (by decide)
        refine lv_iload_n hx hb dX12_declared_42 rfl (lv_at hl 1 rfl) ?_
        refine W.widen (k := 0) (n := 0) (by decide +kernel) (by decide +kernel) ?_
        exact W.iret (v := (nI k5)) hx hb hr (fun t9_ ht hW => ⟨⟨(nI k5), k5, rfl, by (try dsimp only); exact Or.inr ⟨rfl, by omega, ⟨x9, y9, ex, ey, exy, ((f36_0).resolve_left (fun h => c_39 h.1)).2⟩, hnk⟩, by rw [ht]; exact hP, hD⟩, hS.F ht⟩) hS.2.2 dX12_declared_43
def wsRbinderf : List Cond := .code yX12_binder cX12_binder 2 (some .int) :: ([.fieldLink RX12 540 "OptimaWorksModel" "binders" "I", .fieldLink RX12 62 "OptimaWorksModel" "binderFrom" "[I", .fieldLink RX12 65 "OptimaWorksModel" "binderLong" "[I", .fieldLink RX12 488 "OptimaWorksModel" "from" "I", .fieldLink RX12 485 "OptimaWorksModel" "at0" "I"] ++ wsX120 ++ (wsV RX12 536 RX12 yX12_sameText wsRsameTextf))
theorem iwsRbinderf_in12 : ∀ w ∈ wsX120, w ∈ wsRbinderf := fun _ h => List.mem_cons_of_mem _ (List.mem_append_left _ (List.mem_append_right _ h))
theorem gwsRbinderf_0 : GoodIn wsRbinderf (wsV RX12 536 RX12 yX12_sameText wsRsameTextf) := goodIn_sub (fun _ h => List.mem_cons_of_mem _ (List.mem_append_right _ h)) (gdV (by decide +kernel) gdwsRsameTextf)
theorem gdwsRbinderf : wsRbinderf.all goodWord = true := gdC rfl (gdA (gdA (by decide +kernel : ([.fieldLink RX12 540 "OptimaWorksModel" "binders" "I", .fieldLink RX12 62 "OptimaWorksModel" "binderFrom" "[I", .fieldLink RX12 65 "OptimaWorksModel" "binderLong" "[I", .fieldLink RX12 488 "OptimaWorksModel" "from" "I", .fieldLink RX12 485 "OptimaWorksModel" "at0" "I"] : List Cond).all goodWord = true) gdwsX120) (gdV (by decide +kernel) gdwsRsameTextf))
theorem hm_r_X12_binderf_0 : (.fieldLink RX12 488 "OptimaWorksModel" "from" "I" : Cond) ∈ wsRbinderf := by decide +kernel
set_option maxHeartbeats 4000000 in
set_option maxRecDepth 100000 in
/-- binder(), told -/
theorem r_X12_binderf (l : Launch) (dC : Nat → ClassId) (dI : Nat → Nat → Nat) (a : Nat → Nat) (k : Nat → ClassId) (h0 : Nat) (vi : Nat → Int32) (vj : Nat → Int64) (vF : Nat → Nat → Int32) (vG : Nat → Nat → Int64) (an : Nat) (fn : Nat) (nm : Nat) (ha0 : vi 17 = nI an) (hfr : vi 19 = nI fn) (hfa : fn ≤ an) (han : an ≤ 4000) (hnm : vi 30 = nI nm) (hnm9 : nm ≤ 60) (hno : NmO (vF 14) (vF 15) nm) (sz : Nat) : Met l yX12_binder wsRbinderf ({ frames := 1, cells := 0, slots := 0, locals := 26 }) (va_Pc [.ref h0] (fun U => U.heap.size = sz ∧ va_P (dC, dI) vwCl (WR a k h0 vi vj vF vG) U.heap ∧ va_K (dC, dI) vwCl (tX12 k) U ∧ va_D (fun _ => True) (WR a k h0 vi vj vF vG))) (va_Qi (fun (r : Int32) (u : Nat) => (r = (-1) ∧ (∀ k, k < nm → ¬ SmW (vF 9) (vF 14) (vF 15) fn an k)) ∨ (r = (nI u) ∧ (u < nm) ∧ (SmW (vF 9) (vF 14) (vF 15) fn an u))) (fun (u : Nat) t => va_P (dC, dI) vwCl (WR a k h0 vi vj vF vG) t.heap ∧ va_D (va_A (WR a k h0 vi vj vF vG) sz) (WR a k h0 vi vj vF vG)) (va_A (WR a k h0 vi vj vF vG) sz)) 0 0 (va_A (WR a k h0 vi vj vF vG) sz) := by
  refine Met.ofW (cc := cX12_binder) (maxL := 2) (ret := (some .int)) (by decide) rfl ?_
  intro p e s m args below meth c s₁ B hml hv
  obtain ⟨rfl, hsz, hP, hK, hD0⟩ := hv
  have hx := B.exec
  have hb := B.bytes
  have hr := B.returns
  have hts := atoms_spec (ws := wsRbinderf) B.pre
  have hown : s.vm.findClass RX12 = some m.cls := findClass_of_methodNamed B.named
  have hlocks := B.notSynchronized
  subst hsz
  have hD := hD0.self (sz := s.heap.size)
  generalize hAe : va_A (WR a k h0 vi vj vF vG) s.heap.size = A at hD ⊢
  have hA : ∀ q : Nat, s.heap.size ≤ q → A q := fun q h => by rw [← hAe]; exact Or.inr h
  have hS : va_S A s.heap s.heap [] := va_S.rf
  have hl := lv_entry ([.ref h0]) (n := 2) (Nat.le_of_ble_eq_true rfl)
  rw [lg_entry_eq]
  generalize (lg_sl ([.ref h0]) ++ List.replicate (2 - (lg_sl ([.ref h0])).length) Slot.unset).toArray = ls at hl ⊢
  have hl : lv_has ls 2 [(0, .ref h0)] := hl
  refine lv_aload_n hx hb dX12_binder_0 rfl (lv_at hl 0 rfl) ?_
  refine va_get (D := (dC, dI)) (ci := 12) (v := .int (vi 30)) (C := RX12) (T := TX12) (N := 163) (fs := fM (vS a vi vj)) hx hb hts iwsRbinderf_in12 hown hK hP 0 rfl rfl 30 (by decide) (hts (.fieldLink RX12 540 "OptimaWorksModel" "binders" "I") (by decide +kernel)) (fun _ h9 => h9) rfl dX12_binder_1 ?_
  refine lv_topi (fun y1 hy1 => ?_)
  obtain rfl : (nI nm) = y1 := (hy1.trans (hnm)).symm
  refine lv_iconst (v := 1) hx hb dX12_binder_4 (by decide) ?_
  refine lv_isub hx hb dX12_binder_5 ?_
  refine lv_istore_n hx hb dX12_binder_6 rfl hl (by decide) rfl (fun ls (hl : lv_has ls _ ([(1, .int ((nI nm) - 1)), (0, .ref h0)])) => ?_)
  have hl : lv_has _ _ ([(0, .ref h0), (1, .int ((nI nm) - 1))]) := lv_sub hl [1, 0] rfl
  refine (fun (loop : ∀ (n9 : Nat) (kq : Int32) (kk1 : Nat) (H : Heap) (locs : List Loc) (ls : Array Slot), ((kq).toInt = (kk1 : Int) - 1) → (kk1 ≤ nm) → (∀ k, kk1 ≤ k → k < nm → ¬ SmW (vF 9) (vF 14) (vF 15) fn an k) →  (kk1 < n9) → va_P (dC, dI) vwCl (WR a k h0 vi vj vF vG) H → va_D A (WR a k h0 vi vj vF vG) → va_S A s.heap H locs → lv_has ls 2 [(0, .ref h0), (1, .int kq)] → W p l e _ s m _ below meth c H locs 0 0 _ (F0 m 7 ls [])) => loop (nm + 1) ((nI nm) - 1) nm _ _ _ (by exact pk_sub_toInt (a := nm) (b := 1) (by omega) (by omega)) (by omega) (fun k hk hk2 => absurd hk (by omega)) (by omega) hP hD hS hl) ?_
  intro n9
  induction n9 with
  | zero => intro kq kk1 H locs ls hkq hkn hnk hf9; exact False.elim (by omega)
  | succ n9 ih7 =>
    intro kq kk1 H locs ls hkq hkn hnk hf7 hP hD hS hl
    refine lv_iload_n hx hb dX12_binder_7 rfl (lv_at hl 1 rfl) ?_
    refine lv_if_lt (tgt := 51) hx hb dX12_binder_8 (by decide) (fun c_8 => ?_) (fun c_8 => ?_)
    · have t_8 : (kq).toInt < 0 := toI_lt c_8 rfl (by decide)
      refine lv_iconst (v := (-1)) hx hb dX12_binder_51 (by decide) ?_
      refine W.widen (k := 0) (n := 0) (by decide +kernel) (by decide +kernel) ?_
      exact W.iret (v := (-1)) hx hb hr (fun t9_ ht hW => ⟨⟨(-1), 0, rfl, by (try dsimp only); exact Or.inl ⟨rfl, fun k hk => hnk k (by omega) hk⟩, by rw [ht]; exact hP, hD⟩, hS.F ht⟩) hS.2.2 dX12_binder_52
    · have t_8 : ¬ (kq).toInt < 0 := toI_nlt c_8 rfl (by decide)
      obtain ⟨kk, h_kk, rfl⟩ := of_toInt (x := kq) (k := 60) (by omega) (by omega)
      have e_kk : (nI kk).toInt = (kk : Int) := nI_toInt (by omega)
      obtain ⟨x9, y9, ex, ey, exy⟩ := hno kk (by omega)
      refine lv_aload_n hx hb dX12_binder_11 rfl (lv_at hl 0 rfl) ?_
      refine lv_aload_n hx hb dX12_binder_12 rfl (lv_at hl 0 rfl) ?_
      refine va_get (D := (dC, dI)) (ci := 12) (v := .ref (a 14)) (C := RX12) (T := TX12) (N := 163) (fs := fM (vS a vi vj)) hx hb hts iwsRbinderf_in12 hown hK hP 0 rfl rfl 31 (by decide) (hts (.fieldLink RX12 62 "OptimaWorksModel" "binderFrom" "[I") (by decide +kernel)) (fun _ h9 => h9) rfl dX12_binder_13 ?_
      refine lv_iload_n hx hb dX12_binder_16 rfl (lv_at hl 1 rfl) ?_
      refine va_iald (cA := k 14) (n := 60) (f := (vF 14)) hx hb hK hP 15 14 (WR_get 14 (by decide)) (TR_get 14 (by decide)) (vp_in_nI (show kk < 60 by omega) (by omega)) dX12_binder_17 ?_
      refine lv_topi (fun y2 hy2 => ?_)
      obtain rfl : ((vF 14) kk) = y2 := (hy2.trans (by rw [nI_clamp (by omega)])).symm
      refine lv_topi (fun y3 hy3 => ?_)
      obtain rfl : (nI x9) = y3 := (hy3.trans (ex)).symm
      refine lv_aload_n hx hb dX12_binder_18 rfl (lv_at hl 0 rfl) ?_
      refine va_get (D := (dC, dI)) (ci := 12) (v := .ref (a 15)) (C := RX12) (T := TX12) (N := 163) (fs := fM (vS a vi vj)) hx hb hts iwsRbinderf_in12 hown hK hP 0 rfl rfl 32 (by decide) (hts (.fieldLink RX12 65 "OptimaWorksModel" "binderLong" "[I") (by decide +kernel)) (fun _ h9 => h9) rfl dX12_binder_19 ?_
      refine lv_iload_n hx hb dX12_binder_22 rfl (lv_at hl 1 rfl) ?_
      refine va_iald (cA := k 15) (n := 60) (f := (vF 15)) hx hb hK hP 16 15 (WR_get 15 (by decide)) (TR_get 15 (by decide)) (vp_in_nI (show kk < 60 by omega) (by omega)) dX12_binder_23 ?_
      refine lv_topi (fun y4 hy4 => ?_)
      obtain rfl : ((vF 15) kk) = y4 := (hy4.trans (by rw [nI_clamp (by omega)])).symm
      refine lv_topi (fun y5 hy5 => ?_)
      obtain rfl : (nI y9) = y5 := (hy5.trans (ey)).symm
      refine lv_aload_n hx hb dX12_binder_24 rfl (lv_at hl 0 rfl) ?_
      refine va_get (D := (dC, dI)) (ci := 12) (v := .int (vi 19)) (C := RX12) (T := TX12) (N := 163) (fs := fM (vS a vi vj)) hx hb hts iwsRbinderf_in12 hown hK hP 0 rfl rfl 19 (by decide) (hts _ hm_r_X12_binderf_0) (fun _ h9 => h9) rfl dX12_binder_25 ?_
      refine lv_topi (fun y6 hy6 => ?_)
      obtain rfl : (nI fn) = y6 := (hy6.trans (hfr)).symm
      refine lv_aload_n hx hb dX12_binder_28 rfl (lv_at hl 0 rfl) ?_
      refine va_get (D := (dC, dI)) (ci := 12) (v := .int (vi 17)) (C := RX12) (T := TX12) (N := 163) (fs := fM (vS a vi vj)) hx hb hts iwsRbinderf_in12 hown hK hP 0 rfl rfl 17 (by decide) (hts (.fieldLink RX12 485 "OptimaWorksModel" "at0" "I") (by decide +kernel)) (fun _ h9 => h9) rfl dX12_binder_29 ?_
      refine lv_topi (fun y7 hy7 => ?_)
      obtain rfl : (nI an) = y7 := (hy7.trans (ha0)).symm
      refine lv_aload_n hx hb dX12_binder_32 rfl (lv_at hl 0 rfl) ?_
      refine va_get (D := (dC, dI)) (ci := 12) (v := .int (vi 19)) (C := RX12) (T := TX12) (N := 163) (fs := fM (vS a vi vj)) hx hb hts iwsRbinderf_in12 hown hK hP 0 rfl rfl 19 (by decide) (hts _ hm_r_X12_binderf_0) (fun _ h9 => h9) rfl dX12_binder_33 ?_
      refine lv_topi (fun y8 hy8 => ?_)
      obtain rfl : (nI fn) = y8 := (hy8.trans (hfr)).symm
      refine lv_isub hx hb dX12_binder_36 ?_
      refine lv_topi (fun y9 hy9 => ?_)
      obtain rfl : (nI (an - fn)) = y9 := (hy9.trans (pk_sub (a := an) (b := fn) (by omega))).symm
      have hFc := allFree hD hS hA
      refine va_calli (va_runV (As := [.int (nI x9), .int (nI y9), .int (nI fn), .int (nI (an - fn))]) (rest := []) ⟨hx, hb, hml, hown, hts⟩ (r_X12_sameTextf l dC dI a k h0 vi vj vF vG x9 y9 fn (an - fn) (by first | with_reducible assumption | decide | omega | rfl | assumption) (by omega) H.size) (cwV 4 hts gwsRbinderf_0 rfl rfl rfl hd_yX12_sameText_RX12 (by decide +kernel)) (fz_pre (va_recv hK hP (ci := 12) (q0 := 0) rfl rfl) hP hK hD) rfl rfl hl.1 rfl (lv_room (Nat.le_of_ble_eq_true rfl)) dX12_binder_37 (by decide +kernel)) hS (fun q _ h => hFc q h) hFc (fun r37 u t9_ H locs ht hvm hw9 hB9 hz1 hk1 hS => ?_)
      have hP : va_P (dC, dI) vwCl (WR a k h0 vi vj vF vG) H := fz_P ht hB9.1
      have hD := fz_sd hP (hB9.2.weaken (fun _ q _ h => hFc q.1 h)) rfl
      have f37_0 := hw9
      try dsimp only at f37_0
      have f37_0 : ((r37) = 0 ∧ ¬ SmT (vF 9) x9 y9 fn (an - fn)) ∨ ((r37) = 1 ∧ SmT (vF 9) x9 y9 fn (an - fn)) := f37_0
      refine lv_if_eq (tgt := 45) hx hb dX12_binder_40 (by decide) (fun c_40 => ?_) (fun c_40 => ?_)
      · have t_40 : (r37).toInt = 0 := toI_eq c_40 rfl (by decide)
        refine lv_iinc (v := ((nI kk) + (-1))) hx hb dX12_binder_45 hl (k := 1) rfl rfl (by decide) rfl (fun ls (hl : lv_has ls _ ([(1, .int ((nI kk) + (-1))), (0, .ref h0)])) => ?_)
        refine lv_goto (tgt := 7) hx hb dX12_binder_48 (by decide) ?_
        have hl : lv_has _ _ ([(0, .ref h0), (1, .int ((nI kk) + (-1)))]) := lv_sub hl [1, 0] rfl
        exact ih7 ((nI kk) + (-1)) (kk1 - 1) _ _ _ (by rw [m1T (by omega)]; omega) (by omega) (fun k hk hk2 => by by_cases e9 : k = kk; (rw [e9]; exact SmW.no ex ey exy ((f37_0).resolve_right (fun h => absurd (h.1.symm.trans c_40) (by decide))).2); (exact hnk k (by omega) hk2)) (by omega) hP hD hS hl
      · have t_40 : ¬ (r37).toInt = 0 := toI_neq c_40 rfl (by decide)
        refine lv_iload_n hx hb dX12_binder_43 rfl (lv_at hl 1 rfl) ?_
        refine W.widen (k := 0) (n := 0) (by decide +kernel) (by decide +kernel) ?_
        exact W.iret (v := (nI kk)) hx hb hr (fun t9_ ht hW => ⟨⟨(nI kk), kk, rfl, by (try dsimp only); exact Or.inr ⟨rfl, by omega, ⟨x9, y9, ex, ey, exy, ((f37_0).resolve_left (fun h => c_40 h.1)).2⟩⟩, by rw [ht]; exact hP, hD⟩, hS.F ht⟩) hS.2.2 dX12_binder_44
end
section
theorem hd_yX12_isNode_RX12 : yX12_isNode.cls = RX12 ∧ yX12_isNode.cls ≠ "java/lang/invoke/MethodHandle" ∧ yX12_isNode.cls ≠ "java/lang/invoke/VarHandle" ∧ (parseMethodDescriptor yX12_isNode.desc).map (fun d => d.parameters.length) = some 1 := by decide +kernel
theorem dX12_canBegin_0 : decode cX12_canBegin 0 = .ok (.aload_n 0, 1) := dk_42 (by decide +kernel)
theorem dX12_canBegin_1 : decode cX12_canBegin 1 = .ok (.getfield 494, 3) := dk_180 (by decide +kernel)
theorem dX12_canBegin_4 : decode cX12_canBegin 4 = .ok (.iconst 3, 1) := dk_6 (by decide +kernel)
theorem dX12_canBegin_5 : decode cX12_canBegin 5 = .ok (.if_icmp .eq 38, 3) := dk_159 (by decide +kernel)
theorem dX12_canBegin_8 : decode cX12_canBegin 8 = .ok (.aload_n 0, 1) := dk_42 (by decide +kernel)
theorem dX12_canBegin_9 : decode cX12_canBegin 9 = .ok (.getfield 494, 3) := dk_180 (by decide +kernel)
theorem dX12_canBegin_12 : decode cX12_canBegin 12 = .ok (.iconst 1, 1) := dk_4 (by decide +kernel)
theorem dX12_canBegin_13 : decode cX12_canBegin 13 = .ok (.if_icmp .eq 30, 3) := dk_159 (by decide +kernel)
theorem dX12_canBegin_16 : decode cX12_canBegin 16 = .ok (.aload_n 0, 1) := dk_42 (by decide +kernel)
theorem dX12_canBegin_17 : decode cX12_canBegin 17 = .ok (.bipush 45, 2) := dk_16 (by decide +kernel)
theorem dX12_canBegin_19 : decode cX12_canBegin 19 = .ok (.invokevirtual 521, 3) := dk_182 (by decide +kernel)
theorem dX12_canBegin_22 : decode cX12_canBegin 22 = .ok (.ifCond .ne 21, 3) := dk_154 (by decide +kernel)
theorem dX12_canBegin_25 : decode cX12_canBegin 25 = .ok (.aload_n 0, 1) := dk_42 (by decide +kernel)
theorem dX12_canBegin_26 : decode cX12_canBegin 26 = .ok (.bipush 40, 2) := dk_16 (by decide +kernel)
theorem dX12_canBegin_28 : decode cX12_canBegin 28 = .ok (.invokevirtual 521, 3) := dk_182 (by decide +kernel)
theorem dX12_canBegin_31 : decode cX12_canBegin 31 = .ok (.ifCond .ne 12, 3) := dk_154 (by decide +kernel)
theorem dX12_canBegin_34 : decode cX12_canBegin 34 = .ok (.aload_n 0, 1) := dk_42 (by decide +kernel)
theorem dX12_canBegin_35 : decode cX12_canBegin 35 = .ok (.bipush 12, 2) := dk_16 (by decide +kernel)
theorem dX12_canBegin_37 : decode cX12_canBegin 37 = .ok (.invokevirtual 530, 3) := dk_182 (by decide +kernel)
theorem dX12_canBegin_40 : decode cX12_canBegin 40 = .ok (.ifCond .eq 7, 3) := dk_153 (by decide +kernel)
theorem dX12_canBegin_43 : decode cX12_canBegin 43 = .ok (.iconst 1, 1) := dk_4 (by decide +kernel)
theorem dX12_canBegin_44 : decode cX12_canBegin 44 = .ok (.goto 4, 3) := dk_167 (by decide +kernel)
theorem dX12_canBegin_47 : decode cX12_canBegin 47 = .ok (.iconst 0, 1) := dk_3 (by decide +kernel)
theorem dX12_canBegin_48 : decode cX12_canBegin 48 = .ok (.istore_n 1, 1) := dk_60 (by decide +kernel)
theorem dX12_canBegin_49 : decode cX12_canBegin 49 = .ok (.iload_n 1, 1) := dk_27 (by decide +kernel)
theorem dX12_canBegin_50 : decode cX12_canBegin 50 = .ok (.ifCond .ne 10, 3) := dk_154 (by decide +kernel)
theorem dX12_canBegin_53 : decode cX12_canBegin 53 = .ok (.aload_n 0, 1) := dk_42 (by decide +kernel)
theorem dX12_canBegin_54 : decode cX12_canBegin 54 = .ok (.invokevirtual 527, 3) := dk_182 (by decide +kernel)
theorem dX12_canBegin_57 : decode cX12_canBegin 57 = .ok (.goto 39, 3) := dk_167 (by decide +kernel)
theorem dX12_canBegin_60 : decode cX12_canBegin 60 = .ok (.aload_n 0, 1) := dk_42 (by decide +kernel)
theorem dX12_canBegin_61 : decode cX12_canBegin 61 = .ok (.getfield 494, 3) := dk_180 (by decide +kernel)
theorem dX12_canBegin_64 : decode cX12_canBegin 64 = .ok (.iconst 1, 1) := dk_4 (by decide +kernel)
theorem dX12_canBegin_65 : decode cX12_canBegin 65 = .ok (.if_icmp .ne 31, 3) := dk_160 (by decide +kernel)
theorem dX12_canBegin_68 : decode cX12_canBegin 68 = .ok (.aload_n 0, 1) := dk_42 (by decide +kernel)
theorem dX12_canBegin_69 : decode cX12_canBegin 69 = .ok (.invokevirtual 558, 3) := dk_182 (by decide +kernel)
theorem dX12_canBegin_72 : decode cX12_canBegin 72 = .ok (.iconst (-1), 1) := dk_2 (by decide +kernel)
theorem dX12_canBegin_73 : decode cX12_canBegin 73 = .ok (.if_icmp .ne 23, 3) := dk_160 (by decide +kernel)
theorem dX12_canBegin_76 : decode cX12_canBegin 76 = .ok (.aload_n 0, 1) := dk_42 (by decide +kernel)
theorem dX12_canBegin_77 : decode cX12_canBegin 77 = .ok (.aload_n 0, 1) := dk_42 (by decide +kernel)
theorem dX12_canBegin_78 : decode cX12_canBegin 78 = .ok (.invokevirtual 555, 3) := dk_182 (by decide +kernel)
theorem dX12_canBegin_81 : decode cX12_canBegin 81 = .ok (.invokevirtual 567, 3) := dk_182 (by decide +kernel)
theorem dX12_canBegin_84 : decode cX12_canBegin 84 = .ok (.ifCond .ne 12, 3) := dk_154 (by decide +kernel)
theorem dX12_canBegin_87 : decode cX12_canBegin 87 = .ok (.aload_n 0, 1) := dk_42 (by decide +kernel)
theorem dX12_canBegin_88 : decode cX12_canBegin 88 = .ok (.iconst 3, 1) := dk_6 (by decide +kernel)
theorem dX12_canBegin_89 : decode cX12_canBegin 89 = .ok (.aload_n 0, 1) := dk_42 (by decide +kernel)
theorem dX12_canBegin_90 : decode cX12_canBegin 90 = .ok (.getfield 488, 3) := dk_180 (by decide +kernel)
theorem dX12_canBegin_93 : decode cX12_canBegin 93 = .ok (.invokevirtual 518, 3) := dk_182 (by decide +kernel)
theorem dX12_canBegin_96 : decode cX12_canBegin 96 = .ok (.aload_n 0, 1) := dk_42 (by decide +kernel)
theorem dX12_canBegin_97 : decode cX12_canBegin 97 = .ok (.getfield 515, 3) := dk_180 (by decide +kernel)
theorem dX12_canBegin_100 : decode cX12_canBegin 100 = .ok (.ifCond .ne 7, 3) := dk_154 (by decide +kernel)
theorem dX12_canBegin_103 : decode cX12_canBegin 103 = .ok (.iconst 1, 1) := dk_4 (by decide +kernel)
theorem dX12_canBegin_104 : decode cX12_canBegin 104 = .ok (.goto 4, 3) := dk_167 (by decide +kernel)
theorem dX12_canBegin_107 : decode cX12_canBegin 107 = .ok (.iconst 0, 1) := dk_3 (by decide +kernel)
theorem dX12_canBegin_108 : decode cX12_canBegin 108 = .ok (.ireturn, 1) := dk_172 (by decide +kernel)
def wsRX12_canBegin : List Cond := .code yX12_canBegin cX12_canBegin 2 (some .boolean) :: ([.fieldLink RX12 494 "OptimaWorksModel" "word" "I", .fieldLink RX12 515 "OptimaWorksModel" "stop" "I", .fieldLink RX12 488 "OptimaWorksModel" "from" "I"] ++ wsX120 ++ (wsV RX12 521 RX12 yX12_isSign wsRX12_isSign) ++ (wsV RX12 530 RX12 yX12_isKey wsRX12_isKey) ++ (wsV RX12 558 RX12 yX12_binder wsRbinderf) ++ (wsV RX12 555 RX12 yX12_declared wsRdeclaredf) ++ (wsV RX12 567 RX12 yX12_isNode wsRisNodeb) ++ (wsV RX12 518 RX12 yX12_faultAt wsRX12_faultAt) ++ (wsV RX12 567 RX12 yX12_isNode wsRisNodea) ++ (wsV RX12 527 RX12 yX12_wrong wsRX12_wrong))
theorem iwsRX12_canBegin_in12 : ∀ w ∈ wsX120, w ∈ wsRX12_canBegin := fun _ h => List.mem_cons_of_mem _ (List.mem_append_left _ (List.mem_append_left _ (List.mem_append_left _ (List.mem_append_left _ (List.mem_append_left _ (List.mem_append_left _ (List.mem_append_left _ (List.mem_append_left _ (List.mem_append_right _ h)))))))))
theorem gwsRX12_canBegin_0 : GoodIn wsRX12_canBegin (wsV RX12 521 RX12 yX12_isSign wsRX12_isSign) := goodIn_sub (fun _ h => List.mem_cons_of_mem _ (List.mem_append_left _ (List.mem_append_left _ (List.mem_append_left _ (List.mem_append_left _ (List.mem_append_left _ (List.mem_append_left _ (List.mem_append_left _ (List.mem_append_right _ h))))))))) (gdV (by decide +kernel) gdwsRX12_isSign)
theorem gwsRX12_canBegin_1 : GoodIn wsRX12_canBegin (wsV RX12 530 RX12 yX12_isKey wsRX12_isKey) := goodIn_sub (fun _ h => List.mem_cons_of_mem _ (List.mem_append_left _ (List.mem_append_left _ (List.mem_append_left _ (List.mem_append_left _ (List.mem_append_left _ (List.mem_append_left _ (List.mem_append_right _ h)))))))) (gdV (by decide +kernel) gdwsRX12_isKey)
theorem gwsRX12_canBegin_2 : GoodIn wsRX12_canBegin (wsV RX12 558 RX12 yX12_binder wsRbinderf) := goodIn_sub (fun _ h => List.mem_cons_of_mem _ (List.mem_append_left _ (List.mem_append_left _ (List.mem_append_left _ (List.mem_append_left _ (List.mem_append_left _ (List.mem_append_right _ h))))))) (gdV (by decide +kernel) gdwsRbinderf)
theorem gwsRX12_canBegin_3 : GoodIn wsRX12_canBegin (wsV RX12 555 RX12 yX12_declared wsRdeclaredf) := goodIn_sub (fun _ h => List.mem_cons_of_mem _ (List.mem_append_left _ (List.mem_append_left _ (List.mem_append_left _ (List.mem_append_left _ (List.mem_append_right _ h)))))) (gdV (by decide +kernel) gdwsRdeclaredf)
theorem gwsRX12_canBegin_4 : GoodIn wsRX12_canBegin (wsV RX12 567 RX12 yX12_isNode wsRisNodeb) := goodIn_sub (fun _ h => List.mem_cons_of_mem _ (List.mem_append_left _ (List.mem_append_left _ (List.mem_append_left _ (List.mem_append_right _ h))))) (gdV (by decide +kernel) gdwsRisNodeb)
theorem gwsRX12_canBegin_5 : GoodIn wsRX12_canBegin (wsV RX12 518 RX12 yX12_faultAt wsRX12_faultAt) := goodIn_sub (fun _ h => List.mem_cons_of_mem _ (List.mem_append_left _ (List.mem_append_left _ (List.mem_append_right _ h)))) (gdV (by decide +kernel) gdwsRX12_faultAt)
theorem gwsRX12_canBegin_6 : GoodIn wsRX12_canBegin (wsV RX12 567 RX12 yX12_isNode wsRisNodea) := goodIn_sub (fun _ h => List.mem_cons_of_mem _ (List.mem_append_left _ (List.mem_append_right _ h))) (gdV (by decide +kernel) gdwsRisNodea)
theorem gwsRX12_canBegin_7 : GoodIn wsRX12_canBegin (wsV RX12 527 RX12 yX12_wrong wsRX12_wrong) := goodIn_sub (fun _ h => List.mem_cons_of_mem _ (List.mem_append_right _ h)) (gdV (by decide +kernel) gdwsRX12_wrong)
theorem gdwsRX12_canBegin : wsRX12_canBegin.all goodWord = true := gdC rfl (gdA (gdA (gdA (gdA (gdA (gdA (gdA (gdA (gdA (by decide +kernel : ([.fieldLink RX12 494 "OptimaWorksModel" "word" "I", .fieldLink RX12 515 "OptimaWorksModel" "stop" "I", .fieldLink RX12 488 "OptimaWorksModel" "from" "I"] : List Cond).all goodWord = true) gdwsX120) (gdV (by decide +kernel) gdwsRX12_isSign)) (gdV (by decide +kernel) gdwsRX12_isKey)) (gdV (by decide +kernel) gdwsRbinderf)) (gdV (by decide +kernel) gdwsRdeclaredf)) (gdV (by decide +kernel) gdwsRisNodeb)) (gdV (by decide +kernel) gdwsRX12_faultAt)) (gdV (by decide +kernel) gdwsRisNodea)) (gdV (by decide +kernel) gdwsRX12_wrong))
theorem hm_r_X12_canBegin_0 : (.fieldLink RX12 494 "OptimaWorksModel" "word" "I" : Cond) ∈ wsRX12_canBegin := by decide +kernel
theorem hm_r_X12_canBegin_1 : (.fieldLink RX12 515 "OptimaWorksModel" "stop" "I" : Cond) ∈ wsRX12_canBegin := by decide +kernel
theorem hm_r_X12_canBegin_2 : (.fieldLink RX12 488 "OptimaWorksModel" "from" "I" : Cond) ∈ wsRX12_canBegin := by decide +kernel
set_option maxHeartbeats 4000000 in
set_option maxRecDepth 100000 in
/-- canBegin() -/
theorem r_X12_canBegin (l : Launch) (dC : Nat → ClassId) (dI : Nat → Nat → Nat) (a : Nat → Nat) (k : Nat → ClassId) (h0 : Nat) (vi : Nat → Int32) (vj : Nat → Int64) (vF : Nat → Nat → Int32) (vG : Nat → Nat → Int64) (tp : Nat) (an : Nat) (fn : Nat) (nm : Nat) (se : Nat) (pa : Nat) (va : Nat) (bd : Nat) (hTp : vi 16 = nI tp) (htp : tp ≤ 4000) (ha0 : vi 17 = nI an) (hfr : vi 19 = nI fn) (hLx : LxO tp fn an (vi 18) (vi 20)) (hst0 : 0 ≤ (vi 21).toInt) (hnm : vi 25 = nI nm) (hnm40 : nm ≤ 40) (hno : NmO (vF 11) (vF 12) nm) (hNk : NkO (vF 10) (vF 13) nm se pa va) (hbd : vi 30 = nI bd) (hbd60 : bd ≤ 60) (hbo : NmO (vF 14) (vF 15) 60) (sz : Nat) : Met l yX12_canBegin wsRX12_canBegin ({ frames := 2, cells := 0, slots := 0, locals := 47 }) (va_Pc [.ref h0] (fun U => U.heap.size = sz ∧ va_P (dC, dI) vwCl (WR a k h0 vi vj vF vG) U.heap ∧ va_K (dC, dI) vwCl (tX12 k) U ∧ va_D (fun _ => True) (WR a k h0 vi vj vF vG))) (va_Qi (fun (r : Int32) (u : (Int32) × (Int32)) => (r = 1 ∧ ((u.1) = 0) ∧ (CbW (vi 18) (vi 20)) ∧ (CbQ (vi 18) (vF 9) (vF 10) (vF 11) (vF 12) (vF 14) (vF 15) fn an nm bd)) ∨ (r = 0 ∧ (0 < ((u.1)).toInt))) (fun (u : (Int32) × (Int32)) t => va_P (dC, dI) vwCl (WR a k h0 (fT (fT vi 21 (u.1)) 22 (u.2)) vj vF vG) t.heap ∧ va_D (va_A (WR a k h0 vi vj vF vG) sz) (WR a k h0 (fT (fT vi 21 (u.1)) 22 (u.2)) vj vF vG)) (va_A (WR a k h0 vi vj vF vG) sz)) 0 0 (va_A (WR a k h0 vi vj vF vG) sz) := by
  refine Met.ofW (cc := cX12_canBegin) (maxL := 2) (ret := (some .boolean)) (by decide) rfl ?_
  intro p e s m args below meth c s₁ B hml hv
  obtain ⟨rfl, hsz, hP, hK, hD0⟩ := hv
  have hx := B.exec
  have hb := B.bytes
  have hr := B.returns
  have hts := atoms_spec (ws := wsRX12_canBegin) B.pre
  have hown : s.vm.findClass RX12 = some m.cls := findClass_of_methodNamed B.named
  have hlocks := B.notSynchronized
  subst hsz
  have hD := hD0.self (sz := s.heap.size)
  generalize hAe : va_A (WR a k h0 vi vj vF vG) s.heap.size = A at hD ⊢
  have hA : ∀ q : Nat, s.heap.size ≤ q → A q := fun q h => by rw [← hAe]; exact Or.inr h
  have hS : va_S A s.heap s.heap [] := va_S.rf
  have hl := lv_entry ([.ref h0]) (n := 2) (Nat.le_of_ble_eq_true rfl)
  rw [lg_entry_eq]
  generalize (lg_sl ([.ref h0]) ++ List.replicate (2 - (lg_sl ([.ref h0])).length) Slot.unset).toArray = ls at hl ⊢
  have hl : lv_has ls 2 [(0, .ref h0)] := hl
  have hfa := hLx.1
  have han := hLx.2.1
  have han4 : an ≤ 4000 := by omega
  refine lv_aload_n hx hb dX12_canBegin_0 rfl (lv_at hl 0 rfl) ?_
  refine va_get (D := (dC, dI)) (ci := 12) (v := .int (vi 18)) (C := RX12) (T := TX12) (N := 163) (fs := fM (vS a vi vj)) hx hb hts iwsRX12_canBegin_in12 hown hK hP 0 rfl rfl 18 (by decide) (hts _ hm_r_X12_canBegin_0) (fun _ h9 => h9) rfl dX12_canBegin_1 ?_
  refine lv_iconst (v := 3) hx hb dX12_canBegin_4 (by decide) ?_
  refine W.cut (pc := 48) (fun H locs ls stk => ∃ (zq : Int32), ((zq = 1 ∧ CbW (vi 18) (vi 20)) ∨ (zq = 0 ∧ zq = 0)) ∧  stk = [.int zq] ∧ va_P (dC, dI) vwCl (WR a k h0 vi vj vF vG) H ∧ va_D A (WR a k h0 vi vj vF vG) ∧ va_S A s.heap H locs ∧ lv_has ls 2 [(0, .ref h0)]) (fun join1 => ?_) ?_
  · refine lv_icmp_eq (tgt := 43) hx hb dX12_canBegin_5 (by decide) (fun c_5 => ?_) (fun c_5 => ?_)
    · have t_5 : ((vi 18)).toInt = 3 := toI_eq c_5 rfl (by decide)
      refine lv_iconst (v := 1) hx hb dX12_canBegin_43 (by decide) ?_
      refine lv_goto (tgt := 48) hx hb dX12_canBegin_44 (by decide) ?_
      have hl : lv_has _ _ ([(0, .ref h0)]) := lv_sub hl [0] rfl
      exact join1 _ _ _ _ ⟨1, Or.inl ⟨rfl, by first | exact Or.inl (by omega) | exact Or.inr (Or.inl (by omega)) | exact Or.inr (Or.inr (Or.inl ⟨f19_0, f19_1⟩)) | exact Or.inr (Or.inr (Or.inr (Or.inl ⟨f28_0, f28_1⟩))) | exact Or.inr (Or.inr (Or.inr (Or.inr ⟨f37_0, f37_1⟩)))⟩, rfl, hP, hD, hS, hl⟩
    · have t_5 : ¬ ((vi 18)).toInt = 3 := toI_neq c_5 rfl (by decide)
      refine lv_aload_n hx hb dX12_canBegin_8 rfl (lv_at hl 0 rfl) ?_
      refine va_get (D := (dC, dI)) (ci := 12) (v := .int (vi 18)) (C := RX12) (T := TX12) (N := 163) (fs := fM (vS a vi vj)) hx hb hts iwsRX12_canBegin_in12 hown hK hP 0 rfl rfl 18 (by decide) (hts _ hm_r_X12_canBegin_0) (fun _ h9 => h9) rfl dX12_canBegin_9 ?_
      refine lv_iconst (v := 1) hx hb dX12_canBegin_12 (by decide) ?_
      refine lv_icmp_eq (tgt := 43) hx hb dX12_canBegin_13 (by decide) (fun c_13 => ?_) (fun c_13 => ?_)
      · have t_13 : ((vi 18)).toInt = 1 := toI_eq c_13 rfl (by decide)
        refine lv_iconst (v := 1) hx hb dX12_canBegin_43 (by decide) ?_
        refine lv_goto (tgt := 48) hx hb dX12_canBegin_44 (by decide) ?_
        have hl : lv_has _ _ ([(0, .ref h0)]) := lv_sub hl [0] rfl
        exact join1 _ _ _ _ ⟨1, Or.inl ⟨rfl, by first | exact Or.inl (by omega) | exact Or.inr (Or.inl (by omega)) | exact Or.inr (Or.inr (Or.inl ⟨f19_0, f19_1⟩)) | exact Or.inr (Or.inr (Or.inr (Or.inl ⟨f28_0, f28_1⟩))) | exact Or.inr (Or.inr (Or.inr (Or.inr ⟨f37_0, f37_1⟩)))⟩, rfl, hP, hD, hS, hl⟩
      · have t_13 : ¬ ((vi 18)).toInt = 1 := toI_neq c_13 rfl (by decide)
        refine lv_aload_n hx hb dX12_canBegin_16 rfl (lv_at hl 0 rfl) ?_
        refine lv_bipush (v := 45) hx hb dX12_canBegin_17 (by decide) ?_
        have hFc := allFree hD hS hA
        refine va_calli (va_runV (As := [.int 45]) (rest := []) ⟨hx, hb, hml, hown, hts⟩ (r_X12_isSign l dC dI a k h0 vi vj vF vG 45 s.heap.size) (cwV 1 hts gwsRX12_canBegin_0 rfl rfl rfl hd_yX12_isSign_RX12 (by decide +kernel)) (fz_pre (va_recv hK hP (ci := 12) (q0 := 0) rfl rfl) hP hK hD) rfl rfl hl.1 rfl (lv_room (Nat.le_of_ble_eq_true rfl)) dX12_canBegin_19 (by decide +kernel)) hS (fun q _ h => hFc q h) hFc (fun r19 u t9_ H locs ht hvm hw9 hB9 hz1 hk1 hS => ?_)
        have hP : va_P (dC, dI) vwCl (WR a k h0 vi vj vF vG) H := fz_P ht hB9.1
        have hD := fz_sd hP (hB9.2.weaken (fun _ q _ h => hFc q.1 h)) rfl
        rcases hw9 with ⟨rfl, f19_0, f19_1⟩ | ⟨rfl, f19_0⟩
        · have f19_0 : (vi 18).toInt = 4 := f19_0
          have f19_1 : (vi 20) = 45 := f19_1
          refine lv_if_ne (tgt := 43) hx hb dX12_canBegin_22 (by decide) (fun _ => ?_) (fun c9 => absurd c9 (by decide))
          refine lv_iconst (v := 1) hx hb dX12_canBegin_43 (by decide) ?_
          refine lv_goto (tgt := 48) hx hb dX12_canBegin_44 (by decide) ?_
          have hl : lv_has _ _ ([(0, .ref h0)]) := lv_sub hl [0] rfl
          exact join1 _ _ _ _ ⟨1, Or.inl ⟨rfl, by first | exact Or.inl (by omega) | exact Or.inr (Or.inl (by omega)) | exact Or.inr (Or.inr (Or.inl ⟨f19_0, f19_1⟩)) | exact Or.inr (Or.inr (Or.inr (Or.inl ⟨f28_0, f28_1⟩))) | exact Or.inr (Or.inr (Or.inr (Or.inr ⟨f37_0, f37_1⟩)))⟩, rfl, hP, hD, hS, hl⟩
        · have f19_0 : ¬ ((vi 18).toInt = 4 ∧ (vi 20) = 45) := f19_0
          refine lv_if_ne (tgt := 43) hx hb dX12_canBegin_22 (by decide) (fun c9 => absurd c9 (by decide)) (fun _ => ?_)
          refine lv_aload_n hx hb dX12_canBegin_25 rfl (lv_at hl 0 rfl) ?_
          refine lv_bipush (v := 40) hx hb dX12_canBegin_26 (by decide) ?_
          have hFc := allFree hD hS hA
          refine va_calli (va_runV (As := [.int 40]) (rest := []) ⟨hx, hb, hml, hown, hts⟩ (r_X12_isSign l dC dI a k h0 vi vj vF vG 40 H.size) (cwV 1 hts gwsRX12_canBegin_0 rfl rfl rfl hd_yX12_isSign_RX12 (by decide +kernel)) (fz_pre (va_recv hK hP (ci := 12) (q0 := 0) rfl rfl) hP hK hD) rfl rfl hl.1 rfl (lv_room (Nat.le_of_ble_eq_true rfl)) dX12_canBegin_28 (by decide +kernel)) hS (fun q _ h => hFc q h) hFc (fun r28 u t9_ H locs ht hvm hw9 hB9 hz1 hk1 hS => ?_)
          have hP : va_P (dC, dI) vwCl (WR a k h0 vi vj vF vG) H := fz_P ht hB9.1
          have hD := fz_sd hP (hB9.2.weaken (fun _ q _ h => hFc q.1 h)) rfl
          rcases hw9 with ⟨rfl, f28_0, f28_1⟩ | ⟨rfl, f28_0⟩
          · have f28_0 : (vi 18).toInt = 4 := f28_0
            have f28_1 : (vi 20) = 40 := f28_1
            refine lv_if_ne (tgt := 43) hx hb dX12_canBegin_31 (by decide) (fun _ => ?_) (fun c9 => absurd c9 (by decide))
            refine lv_iconst (v := 1) hx hb dX12_canBegin_43 (by decide) ?_
            refine lv_goto (tgt := 48) hx hb dX12_canBegin_44 (by decide) ?_
            have hl : lv_has _ _ ([(0, .ref h0)]) := lv_sub hl [0] rfl
            exact join1 _ _ _ _ ⟨1, Or.inl ⟨rfl, by first | exact Or.inl (by omega) | exact Or.inr (Or.inl (by omega)) | exact Or.inr (Or.inr (Or.inl ⟨f19_0, f19_1⟩)) | exact Or.inr (Or.inr (Or.inr (Or.inl ⟨f28_0, f28_1⟩))) | exact Or.inr (Or.inr (Or.inr (Or.inr ⟨f37_0, f37_1⟩)))⟩, rfl, hP, hD, hS, hl⟩
          · have f28_0 : ¬ ((vi 18).toInt = 4 ∧ (vi 20) = 40) := f28_0
            refine lv_if_ne (tgt := 43) hx hb dX12_canBegin_31 (by decide) (fun c9 => absurd c9 (by decide)) (fun _ => ?_)
            refine lv_aload_n hx hb dX12_canBegin_34 rfl (lv_at hl 0 rfl) ?_
            refine lv_bipush (v := 12) hx hb dX12_canBegin_35 (by decide) ?_
            have hFc := allFree hD hS hA
            refine va_calli (va_runV (As := [.int 12]) (rest := []) ⟨hx, hb, hml, hown, hts⟩ (r_X12_isKey l dC dI a k h0 vi vj vF vG 12 H.size) (cwV 1 hts gwsRX12_canBegin_1 rfl rfl rfl hd_yX12_isKey_RX12 (by decide +kernel)) (fz_pre (va_recv hK hP (ci := 12) (q0 := 0) rfl rfl) hP hK hD) rfl rfl hl.1 rfl (lv_room (Nat.le_of_ble_eq_true rfl)) dX12_canBegin_37 (by decide +kernel)) hS (fun q _ h => hFc q h) hFc (fun r37 u t9_ H locs ht hvm hw9 hB9 hz1 hk1 hS => ?_)
            have hP : va_P (dC, dI) vwCl (WR a k h0 vi vj vF vG) H := fz_P ht hB9.1
            have hD := fz_sd hP (hB9.2.weaken (fun _ q _ h => hFc q.1 h)) rfl
            rcases hw9 with ⟨rfl, f37_0, f37_1⟩ | ⟨rfl, f37_0⟩
            · have f37_0 : (vi 18).toInt = 2 := f37_0
              have f37_1 : (vi 20) = 12 := f37_1
              refine lv_if_eq (tgt := 47) hx hb dX12_canBegin_40 (by decide) (fun c9 => absurd c9 (by decide)) (fun _ => ?_)
              refine lv_iconst (v := 1) hx hb dX12_canBegin_43 (by decide) ?_
              refine lv_goto (tgt := 48) hx hb dX12_canBegin_44 (by decide) ?_
              have hl : lv_has _ _ ([(0, .ref h0)]) := lv_sub hl [0] rfl
              exact join1 _ _ _ _ ⟨1, Or.inl ⟨rfl, by first | exact Or.inl (by omega) | exact Or.inr (Or.inl (by omega)) | exact Or.inr (Or.inr (Or.inl ⟨f19_0, f19_1⟩)) | exact Or.inr (Or.inr (Or.inr (Or.inl ⟨f28_0, f28_1⟩))) | exact Or.inr (Or.inr (Or.inr (Or.inr ⟨f37_0, f37_1⟩)))⟩, rfl, hP, hD, hS, hl⟩
            · have f37_0 : ¬ ((vi 18).toInt = 2 ∧ (vi 20) = 12) := f37_0
              refine lv_if_eq (tgt := 47) hx hb dX12_canBegin_40 (by decide) (fun _ => ?_) (fun c9 => absurd (by decide) c9)
              refine lv_iconst (v := 0) hx hb dX12_canBegin_47 (by decide) ?_
              have hl : lv_has _ _ ([(0, .ref h0)]) := lv_sub hl [0] rfl
              exact join1 _ _ _ _ ⟨0, Or.inr ⟨rfl, rfl⟩, rfl, hP, hD, hS, hl⟩
  · rintro H locs ls stk ⟨zq, hzq, rfl, hP, hD, hS, hl⟩
    refine lv_istore_n hx hb dX12_canBegin_48 rfl hl (by decide) rfl (fun ls (hl : lv_has ls _ ([(1, .int zq), (0, .ref h0)])) => ?_)
    refine lv_iload_n hx hb dX12_canBegin_49 rfl (lv_at hl 0 rfl) ?_
    refine lv_if_ne (tgt := 60) hx hb dX12_canBegin_50 (by decide) (fun c_50 => ?_) (fun c_50 => ?_)
    · have t_50 : (zq).toInt ≠ 0 := toI_ne c_50 rfl (by decide)
      refine lv_aload_n hx hb dX12_canBegin_60 rfl (lv_at hl 1 rfl) ?_
      refine va_get (D := (dC, dI)) (ci := 12) (v := .int (vi 18)) (C := RX12) (T := TX12) (N := 163) (fs := fM (vS a vi vj)) hx hb hts iwsRX12_canBegin_in12 hown hK hP 0 rfl rfl 18 (by decide) (hts _ hm_r_X12_canBegin_0) (fun _ h9 => h9) rfl dX12_canBegin_61 ?_
      refine lv_iconst (v := 1) hx hb dX12_canBegin_64 (by decide) ?_
      refine lv_icmp_ne (tgt := 96) hx hb dX12_canBegin_65 (by decide) (fun c_65 => ?_) (fun c_65 => ?_)
      · have t_65 : ((vi 18)).toInt ≠ 1 := toI_ne c_65 rfl (by decide)
        refine lv_aload_n hx hb dX12_canBegin_96 rfl (lv_at hl 1 rfl) ?_
        refine va_get (D := (dC, dI)) (ci := 12) (v := .int (vi 21)) (C := RX12) (T := TX12) (N := 163) (fs := fM (vS a vi vj)) hx hb hts iwsRX12_canBegin_in12 hown hK hP 0 rfl rfl 21 (by decide) (hts _ hm_r_X12_canBegin_1) (fun _ h9 => h9) rfl dX12_canBegin_97 ?_
        refine lv_if_ne (tgt := 107) hx hb dX12_canBegin_100 (by decide) (fun c_100 => ?_) (fun c_100 => ?_)
        · have t_100 : ((vi 21)).toInt ≠ 0 := toI_ne c_100 rfl (by decide)
          refine lv_iconst (v := 0) hx hb dX12_canBegin_107 (by decide) ?_
          refine W.widen (k := 0) (n := 0) (by decide +kernel) (by decide +kernel) ?_
          have e9 : fT (fT vi 21 (vi 21)) 22 (vi 22) = vi := (fT_id _ _ (fT_ne _ _ (Nat.ne_of_beq_eq_false rfl))).trans (fT_id _ _ (rfl))
          have hP := wr_Pi e9 hP
          have hD := wr_Di e9 hD
          clear e9
          exact W.zret (v := 0) hx hb hr rfl (fun t9_ ht hW => ⟨⟨0, ((vi 21), (vi 22)), rfl, by (try dsimp only); exact Or.inr ⟨rfl, by omega⟩, by rw [ht]; exact hP, hD⟩, hS.F ht⟩) hS.2.2 dX12_canBegin_108
        · have t_100 : ((vi 21)).toInt = 0 := toI_nne c_100 rfl (by decide)
          refine lv_iconst (v := 1) hx hb dX12_canBegin_103 (by decide) ?_
          refine lv_goto (tgt := 108) hx hb dX12_canBegin_104 (by decide) ?_
          refine W.widen (k := 0) (n := 0) (by decide +kernel) (by decide +kernel) ?_
          have e9 : fT (fT vi 21 (vi 21)) 22 (vi 22) = vi := (fT_id _ _ (fT_ne _ _ (Nat.ne_of_beq_eq_false rfl))).trans (fT_id _ _ (rfl))
          have hP := wr_Pi e9 hP
          have hD := wr_Di e9 hD
          clear e9
          exact W.zret (v := 1) hx hb hr rfl (fun t9_ ht hW => ⟨⟨1, ((vi 21), (vi 22)), rfl, by (try dsimp only); exact Or.inl ⟨rfl, i32z (by omega), (hzq.resolve_right (fun h => c_50 h.1)).2, fun h9 => absurd h9 (by omega)⟩, by rw [ht]; exact hP, hD⟩, hS.F ht⟩) hS.2.2 dX12_canBegin_108
      · have t_65 : ((vi 18)).toInt = 1 := toI_nne c_65 rfl (by decide)
        refine lv_aload_n hx hb dX12_canBegin_68 rfl (lv_at hl 1 rfl) ?_
        have hFc := allFree hD hS hA
        refine va_calli (va_runV (As := []) (rest := []) ⟨hx, hb, hml, hown, hts⟩ (r_X12_binderf l dC dI a k h0 vi vj vF vG an fn bd ha0 hfr (by first | with_reducible assumption | decide | omega | rfl | assumption) (by first | with_reducible assumption | decide | omega | rfl | assumption) (hbd) (by first | with_reducible assumption | decide | omega | rfl | assumption) ((fun k9 h9 => hbo k9 (by omega))) H.size) (cwV 0 hts gwsRX12_canBegin_2 rfl rfl rfl hd_yX12_binder_RX12 (by decide +kernel)) (fz_pre (va_recv hK hP (ci := 12) (q0 := 0) rfl rfl) hP hK hD) rfl rfl hl.1 rfl (lv_room (Nat.le_of_ble_eq_true rfl)) dX12_canBegin_69 (by decide +kernel)) hS (fun q _ h => hFc q h) hFc (fun r69 kx69 t9_ H locs ht hvm hw9 hB9 hz1 hk1 hS => ?_)
        have hP : va_P (dC, dI) vwCl (WR a k h0 vi vj vF vG) H := fz_P ht hB9.1
        have hD := fz_sd hP (hB9.2.weaken (fun _ q _ h => hFc q.1 h)) rfl
        rcases hw9 with ⟨rfl, f69_0⟩ | ⟨rfl, f69_0, f69_1⟩
        · have f69_0 : ∀ k, k < bd → ¬ SmW (vF 9) (vF 14) (vF 15) fn an k := f69_0
          refine lv_iconst (v := (-1)) hx hb dX12_canBegin_72 (by decide) ?_
          refine lv_icmp_ne (tgt := 96) hx hb dX12_canBegin_73 (by decide) (fun c9 => absurd c9 (by decide)) (fun _ => ?_)
          refine lv_aload_n hx hb dX12_canBegin_76 rfl (lv_at hl 1 rfl) ?_
          refine lv_aload_n hx hb dX12_canBegin_77 rfl (lv_at hl 1 rfl) ?_
          have hFc := allFree hD hS hA
          refine va_calli (va_runV (As := []) (rest := [.ref h0]) ⟨hx, hb, hml, hown, hts⟩ (r_X12_declaredf l dC dI a k h0 vi vj vF vG an fn nm ha0 hfr (by first | with_reducible assumption | decide | omega | rfl | assumption) (by first | with_reducible assumption | decide | omega | rfl | assumption) hnm (by first | with_reducible assumption | decide | omega | rfl | assumption) (by first | with_reducible assumption | decide | omega | rfl | assumption) H.size) (cwV 0 hts gwsRX12_canBegin_3 rfl rfl rfl hd_yX12_declared_RX12 (by decide +kernel)) (fz_pre (va_recv hK hP (ci := 12) (q0 := 0) rfl rfl) hP hK hD) rfl rfl hl.1 rfl (lv_room (Nat.le_of_ble_eq_true rfl)) dX12_canBegin_78 (by decide +kernel)) hS (fun q _ h => hFc q h) hFc (fun r78 kx78 t9_ H locs ht hvm hw9 hB9 hz1 hk1 hS => ?_)
          have hP : va_P (dC, dI) vwCl (WR a k h0 vi vj vF vG) H := fz_P ht hB9.1
          have hD := fz_sd hP (hB9.2.weaken (fun _ q _ h => hFc q.1 h)) rfl
          rcases hw9 with ⟨rfl, f78_0⟩ | ⟨rfl, f78_0, f78_1, f78_2⟩
          · have f78_0 : ∀ k, k < nm → ¬ SmW (vF 9) (vF 11) (vF 12) fn an k := f78_0
            have hFc := allFree hD hS hA
            refine va_calli (va_runV (As := [.int (-1)]) (rest := []) ⟨hx, hb, hml, hown, hts⟩ (r_X12_isNodeb l dC dI a k h0 vi vj vF vG H.size) (cwV 1 hts gwsRX12_canBegin_4 rfl rfl rfl hd_yX12_isNode_RX12 (by decide +kernel)) (fz_pre (va_recv hK hP (ci := 12) (q0 := 0) rfl rfl) hP hK hD) rfl rfl hl.1 rfl (lv_room (Nat.le_of_ble_eq_true rfl)) dX12_canBegin_81 (by decide +kernel)) hS (fun q _ h => hFc q h) hFc (fun r81 u t9_ H locs ht hvm hw9 hB9 hz1 hk1 hS => ?_)
            have hP : va_P (dC, dI) vwCl (WR a k h0 vi vj vF vG) H := fz_P ht hB9.1
            have hD := fz_sd hP (hB9.2.weaken (fun _ q _ h => hFc q.1 h)) rfl
            obtain rfl := hw9
            refine lv_if_ne (tgt := 96) hx hb dX12_canBegin_84 (by decide) (fun c9 => absurd c9 (by decide)) (fun _ => ?_)
            refine lv_aload_n hx hb dX12_canBegin_87 rfl (lv_at hl 1 rfl) ?_
            refine lv_iconst (v := 3) hx hb dX12_canBegin_88 (by decide) ?_
            refine lv_aload_n hx hb dX12_canBegin_89 rfl (lv_at hl 1 rfl) ?_
            refine va_get (D := (dC, dI)) (ci := 12) (v := .int (vi 19)) (C := RX12) (T := TX12) (N := 163) (fs := fM (vS a vi vj)) hx hb hts iwsRX12_canBegin_in12 hown hK hP 0 rfl rfl 19 (by decide) (hts _ hm_r_X12_canBegin_2) (fun _ h9 => h9) rfl dX12_canBegin_90 ?_
            refine lv_topi (fun y1 hy1 => ?_)
            obtain rfl : (nI fn) = y1 := (hy1.trans (hfr)).symm
            have hFc := allFree hD hS hA
            refine va_callv (va_runV (As := [.int 3, .int (nI fn)]) (rest := []) ⟨hx, hb, hml, hown, hts⟩ (r_X12_faultAt l dC dI a k h0 vi vj vF vG 3 (nI fn) (by first | with_reducible assumption | decide | omega | rfl | assumption) H.size) (cwV 2 hts gwsRX12_canBegin_5 rfl rfl rfl hd_yX12_faultAt_RX12 (by decide +kernel)) (fz_pre (va_recv hK hP (ci := 12) (q0 := 0) rfl rfl) hP hK hD) rfl rfl hl.1 rfl (lv_room (Nat.le_of_ble_eq_true rfl)) dX12_canBegin_93 (by decide +kernel)) hS (fun q _ h => hFc q h) hFc (fun u t9_ H locs ht hvm hw9 hB9 hz1 hk1 hS => ?_)
            revert u hw9 hB9
            refine fz_p2 ?_
            intro s293 p293 hw9 hB9
            try dsimp only at hw9 hB9
            have hP : va_P (dC, dI) vwCl (WR a k h0 (fT (fT vi 21 s293) 22 p293) vj vF vG) H := fz_P ht hB9.1
            have hD := fz_sd hP (hB9.2.weaken (fun _ q _ h => hFc q.1 h)) rfl
            revert hw9
            refine fz_a2 ?_
            intro f93_0 f93_1
            have f93_0 : (0 < (vi 21).toInt ∧ s293 = (vi 21) ∧ p293 = (vi 22)) ∨ (¬ 0 < (vi 21).toInt ∧ s293 = 3 ∧ p293 = (nI fn)) := f93_0
            refine lv_aload_n hx hb dX12_canBegin_96 rfl (lv_at hl 1 rfl) ?_
            refine va_get (D := (dC, dI)) (ci := 12) (v := .int s293) (C := RX12) (T := TX12) (N := 163) (fs := fM (vS a (fT (fT vi 21 s293) 22 p293) vj)) hx hb hts iwsRX12_canBegin_in12 hown hK hP 0 rfl rfl 21 (by decide) (hts _ hm_r_X12_canBegin_1) (fun _ h9 => h9) rfl dX12_canBegin_97 ?_
            refine lv_if_ne (tgt := 107) hx hb dX12_canBegin_100 (by decide) (fun c_100 => ?_) (fun c9 => False.elim (by have t9 : (s293).toInt = 0 := toI_nne c9 rfl (by decide); omega))
            have t_100 : (s293).toInt ≠ 0 := toI_ne c_100 rfl (by decide)
            refine lv_iconst (v := 0) hx hb dX12_canBegin_107 (by decide) ?_
            refine W.widen (k := 0) (n := 0) (by decide +kernel) (by decide +kernel) ?_
            exact W.zret (v := 0) hx hb hr rfl (fun t9_ ht hW => ⟨⟨0, (s293, p293), rfl, by (try dsimp only); exact Or.inr ⟨rfl, by omega⟩, by rw [ht]; exact hP, hD⟩, hS.F ht⟩) hS.2.2 dX12_canBegin_108
          · have f78_1 : SmW (vF 9) (vF 11) (vF 12) fn an kx78 := f78_1
            have f78_2 : ∀ k, k < kx78 → ¬ SmW (vF 9) (vF 11) (vF 12) fn an k := f78_2
            have hFc := allFree hD hS hA
            refine va_calli (va_runV (As := [.int (nI kx78)]) (rest := []) ⟨hx, hb, hml, hown, hts⟩ (r_X12_isNodea l dC dI a k h0 vi vj vF vG kx78 (by first | with_reducible assumption | decide | omega | rfl | assumption) H.size) (cwV 1 hts gwsRX12_canBegin_6 rfl rfl rfl hd_yX12_isNode_RX12 (by decide +kernel)) (fz_pre (va_recv hK hP (ci := 12) (q0 := 0) rfl rfl) hP hK hD) rfl rfl hl.1 rfl (lv_room (Nat.le_of_ble_eq_true rfl)) dX12_canBegin_81 (by decide +kernel)) hS (fun q _ h => hFc q h) hFc (fun r81_1 u t9_ H locs ht hvm hw9 hB9 hz1 hk1 hS => ?_)
            have hP : va_P (dC, dI) vwCl (WR a k h0 vi vj vF vG) H := fz_P ht hB9.1
            have hD := fz_sd hP (hB9.2.weaken (fun _ q _ h => hFc q.1 h)) rfl
            rcases hw9 with ⟨rfl, f81_1_0⟩ | ⟨rfl, f81_1_0⟩
            · have f81_1_0 : (vF 10) kx78 = 2 ∨ (vF 10) kx78 = 3 := f81_1_0
              refine lv_if_ne (tgt := 96) hx hb dX12_canBegin_84 (by decide) (fun _ => ?_) (fun c9 => absurd c9 (by decide))
              refine lv_aload_n hx hb dX12_canBegin_96 rfl (lv_at hl 1 rfl) ?_
              refine va_get (D := (dC, dI)) (ci := 12) (v := .int (vi 21)) (C := RX12) (T := TX12) (N := 163) (fs := fM (vS a vi vj)) hx hb hts iwsRX12_canBegin_in12 hown hK hP 0 rfl rfl 21 (by decide) (hts _ hm_r_X12_canBegin_1) (fun _ h9 => h9) rfl dX12_canBegin_97 ?_
              refine lv_if_ne (tgt := 107) hx hb dX12_canBegin_100 (by decide) (fun c_100 => ?_) (fun c_100 => ?_)
              · have t_100 : ((vi 21)).toInt ≠ 0 := toI_ne c_100 rfl (by decide)
                refine lv_iconst (v := 0) hx hb dX12_canBegin_107 (by decide) ?_
                refine W.widen (k := 0) (n := 0) (by decide +kernel) (by decide +kernel) ?_
                have e9 : fT (fT vi 21 (vi 21)) 22 (vi 22) = vi := (fT_id _ _ (fT_ne _ _ (Nat.ne_of_beq_eq_false rfl))).trans (fT_id _ _ (rfl))
                have hP := wr_Pi e9 hP
                have hD := wr_Di e9 hD
                clear e9
                exact W.zret (v := 0) hx hb hr rfl (fun t9_ ht hW => ⟨⟨0, ((vi 21), (vi 22)), rfl, by (try dsimp only); exact Or.inr ⟨rfl, by omega⟩, by rw [ht]; exact hP, hD⟩, hS.F ht⟩) hS.2.2 dX12_canBegin_108
              · have t_100 : ((vi 21)).toInt = 0 := toI_nne c_100 rfl (by decide)
                refine lv_iconst (v := 1) hx hb dX12_canBegin_103 (by decide) ?_
                refine lv_goto (tgt := 108) hx hb dX12_canBegin_104 (by decide) ?_
                refine W.widen (k := 0) (n := 0) (by decide +kernel) (by decide +kernel) ?_
                have e9 : fT (fT vi 21 (vi 21)) 22 (vi 22) = vi := (fT_id _ _ (fT_ne _ _ (Nat.ne_of_beq_eq_false rfl))).trans (fT_id _ _ (rfl))
                have hP := wr_Pi e9 hP
                have hD := wr_Di e9 hD
                clear e9
                exact W.zret (v := 1) hx hb hr rfl (fun t9_ ht hW => ⟨⟨1, ((vi 21), (vi 22)), rfl, by (try dsimp only); exact Or.inl ⟨rfl, i32z (by omega), (hzq.resolve_right (fun h => c_50 h.1)).2, fun _ => by first | exact Or.inl ⟨kx69, f69_0, f69_1⟩ | exact Or.inr ⟨kx78, f78_0, f78_1, f78_2, f81_1_0⟩⟩, by rw [ht]; exact hP, hD⟩, hS.F ht⟩) hS.2.2 dX12_canBegin_108
            · have f81_1_0 : ¬ ((vF 10) kx78 = 2 ∨ (vF 10) kx78 = 3) := f81_1_0
              refine lv_if_ne (tgt := 96) hx hb dX12_canBegin_84 (by decide) (fun c9 => absurd c9 (by decide)) (fun _ => ?_)
              refine lv_aload_n hx hb dX12_canBegin_87 rfl (lv_at hl 1 rfl) ?_
              refine lv_iconst (v := 3) hx hb dX12_canBegin_88 (by decide) ?_
              refine lv_aload_n hx hb dX12_canBegin_89 rfl (lv_at hl 1 rfl) ?_
              refine va_get (D := (dC, dI)) (ci := 12) (v := .int (vi 19)) (C := RX12) (T := TX12) (N := 163) (fs := fM (vS a vi vj)) hx hb hts iwsRX12_canBegin_in12 hown hK hP 0 rfl rfl 19 (by decide) (hts _ hm_r_X12_canBegin_2) (fun _ h9 => h9) rfl dX12_canBegin_90 ?_
              refine lv_topi (fun y2 hy2 => ?_)
              obtain rfl : (nI fn) = y2 := (hy2.trans (hfr)).symm
              have hFc := allFree hD hS hA
              refine va_callv (va_runV (As := [.int 3, .int (nI fn)]) (rest := []) ⟨hx, hb, hml, hown, hts⟩ (r_X12_faultAt l dC dI a k h0 vi vj vF vG 3 (nI fn) (by first | with_reducible assumption | decide | omega | rfl | assumption) H.size) (cwV 2 hts gwsRX12_canBegin_5 rfl rfl rfl hd_yX12_faultAt_RX12 (by decide +kernel)) (fz_pre (va_recv hK hP (ci := 12) (q0 := 0) rfl rfl) hP hK hD) rfl rfl hl.1 rfl (lv_room (Nat.le_of_ble_eq_true rfl)) dX12_canBegin_93 (by decide +kernel)) hS (fun q _ h => hFc q h) hFc (fun u t9_ H locs ht hvm hw9 hB9 hz1 hk1 hS => ?_)
              revert u hw9 hB9
              refine fz_p2 ?_
              intro s293_1 p293_1 hw9 hB9
              try dsimp only at hw9 hB9
              have hP : va_P (dC, dI) vwCl (WR a k h0 (fT (fT vi 21 s293_1) 22 p293_1) vj vF vG) H := fz_P ht hB9.1
              have hD := fz_sd hP (hB9.2.weaken (fun _ q _ h => hFc q.1 h)) rfl
              revert hw9
              refine fz_a2 ?_
              intro f93_1_0 f93_1_1
              have f93_1_0 : (0 < (vi 21).toInt ∧ s293_1 = (vi 21) ∧ p293_1 = (vi 22)) ∨ (¬ 0 < (vi 21).toInt ∧ s293_1 = 3 ∧ p293_1 = (nI fn)) := f93_1_0
              refine lv_aload_n hx hb dX12_canBegin_96 rfl (lv_at hl 1 rfl) ?_
              refine va_get (D := (dC, dI)) (ci := 12) (v := .int s293_1) (C := RX12) (T := TX12) (N := 163) (fs := fM (vS a (fT (fT vi 21 s293_1) 22 p293_1) vj)) hx hb hts iwsRX12_canBegin_in12 hown hK hP 0 rfl rfl 21 (by decide) (hts _ hm_r_X12_canBegin_1) (fun _ h9 => h9) rfl dX12_canBegin_97 ?_
              refine lv_if_ne (tgt := 107) hx hb dX12_canBegin_100 (by decide) (fun c_100 => ?_) (fun c9 => False.elim (by have t9 : (s293_1).toInt = 0 := toI_nne c9 rfl (by decide); omega))
              have t_100 : (s293_1).toInt ≠ 0 := toI_ne c_100 rfl (by decide)
              refine lv_iconst (v := 0) hx hb dX12_canBegin_107 (by decide) ?_
              refine W.widen (k := 0) (n := 0) (by decide +kernel) (by decide +kernel) ?_
              exact W.zret (v := 0) hx hb hr rfl (fun t9_ ht hW => ⟨⟨0, (s293_1, p293_1), rfl, by (try dsimp only); exact Or.inr ⟨rfl, by omega⟩, by rw [ht]; exact hP, hD⟩, hS.F ht⟩) hS.2.2 dX12_canBegin_108
        · have f69_1 : SmW (vF 9) (vF 14) (vF 15) fn an kx69 := f69_1
          refine lv_iconst (v := (-1)) hx hb dX12_canBegin_72 (by decide) ?_
          refine lv_icmp_ne (tgt := 96) hx hb dX12_canBegin_73 (by decide) (fun c_73 => ?_) (fun c_73 => ?_)
          · have t_73 : ((kx69 : Nat) : Int) ≠ -1 := toI_ne c_73 (nI_toInt (by omega)) (by decide)
            refine lv_aload_n hx hb dX12_canBegin_96 rfl (lv_at hl 1 rfl) ?_
            refine va_get (D := (dC, dI)) (ci := 12) (v := .int (vi 21)) (C := RX12) (T := TX12) (N := 163) (fs := fM (vS a vi vj)) hx hb hts iwsRX12_canBegin_in12 hown hK hP 0 rfl rfl 21 (by decide) (hts _ hm_r_X12_canBegin_1) (fun _ h9 => h9) rfl dX12_canBegin_97 ?_
            refine lv_if_ne (tgt := 107) hx hb dX12_canBegin_100 (by decide) (fun c_100 => ?_) (fun c_100 => ?_)
            · have t_100 : ((vi 21)).toInt ≠ 0 := toI_ne c_100 rfl (by decide)
              refine lv_iconst (v := 0) hx hb dX12_canBegin_107 (by decide) ?_
              refine W.widen (k := 0) (n := 0) (by decide +kernel) (by decide +kernel) ?_
              have e9 : fT (fT vi 21 (vi 21)) 22 (vi 22) = vi := (fT_id _ _ (fT_ne _ _ (Nat.ne_of_beq_eq_false rfl))).trans (fT_id _ _ (rfl))
              have hP := wr_Pi e9 hP
              have hD := wr_Di e9 hD
              clear e9
              exact W.zret (v := 0) hx hb hr rfl (fun t9_ ht hW => ⟨⟨0, ((vi 21), (vi 22)), rfl, by (try dsimp only); exact Or.inr ⟨rfl, by omega⟩, by rw [ht]; exact hP, hD⟩, hS.F ht⟩) hS.2.2 dX12_canBegin_108
            · have t_100 : ((vi 21)).toInt = 0 := toI_nne c_100 rfl (by decide)
              refine lv_iconst (v := 1) hx hb dX12_canBegin_103 (by decide) ?_
              refine lv_goto (tgt := 108) hx hb dX12_canBegin_104 (by decide) ?_
              refine W.widen (k := 0) (n := 0) (by decide +kernel) (by decide +kernel) ?_
              have e9 : fT (fT vi 21 (vi 21)) 22 (vi 22) = vi := (fT_id _ _ (fT_ne _ _ (Nat.ne_of_beq_eq_false rfl))).trans (fT_id _ _ (rfl))
              have hP := wr_Pi e9 hP
              have hD := wr_Di e9 hD
              clear e9
              exact W.zret (v := 1) hx hb hr rfl (fun t9_ ht hW => ⟨⟨1, ((vi 21), (vi 22)), rfl, by (try dsimp only); exact Or.inl ⟨rfl, i32z (by omega), (hzq.resolve_right (fun h => c_50 h.1)).2, fun _ => by first | exact Or.inl ⟨kx69, f69_0, f69_1⟩ | exact Or.inr ⟨kx78, f78_0, f78_1, f78_2, f81_1_0⟩⟩, by rw [ht]; exact hP, hD⟩, hS.F ht⟩) hS.2.2 dX12_canBegin_108
          · have t_73 : ((kx69 : Nat) : Int) = -1 := toI_nne c_73 (nI_toInt (by omega)) (by decide)
            refine lv_aload_n hx hb dX12_canBegin_76 rfl (lv_at hl 1 rfl) ?_
            refine lv_aload_n hx hb dX12_canBegin_77 rfl (lv_at hl 1 rfl) ?_
            have hFc := allFree hD hS hA
            refine va_calli (va_runV (As := []) (rest := [.ref h0]) ⟨hx, hb, hml, hown, hts⟩ (r_X12_declaredf l dC dI a k h0 vi vj vF vG an fn nm ha0 hfr (by first | with_reducible assumption | decide | omega | rfl | assumption) (by first | with_reducible assumption | decide | omega | rfl | assumption) hnm (by first | with_reducible assumption | decide | omega | rfl | assumption) (by first | with_reducible assumption | decide | omega | rfl | assumption) H.size) (cwV 0 hts gwsRX12_canBegin_3 rfl rfl rfl hd_yX12_declared_RX12 (by decide +kernel)) (fz_pre (va_recv hK hP (ci := 12) (q0 := 0) rfl rfl) hP hK hD) rfl rfl hl.1 rfl (lv_room (Nat.le_of_ble_eq_true rfl)) dX12_canBegin_78 (by decide +kernel)) hS (fun q _ h => hFc q h) hFc (fun r78_1 kx78_1 t9_ H locs ht hvm hw9 hB9 hz1 hk1 hS => ?_)
            have hP : va_P (dC, dI) vwCl (WR a k h0 vi vj vF vG) H := fz_P ht hB9.1
            have hD := fz_sd hP (hB9.2.weaken (fun _ q _ h => hFc q.1 h)) rfl
            rcases hw9 with ⟨rfl, f78_1_0⟩ | ⟨rfl, f78_1_0, f78_1_1, f78_1_2⟩
            · have f78_1_0 : ∀ k, k < nm → ¬ SmW (vF 9) (vF 11) (vF 12) fn an k := f78_1_0
              have hFc := allFree hD hS hA
              refine va_calli (va_runV (As := [.int (-1)]) (rest := []) ⟨hx, hb, hml, hown, hts⟩ (r_X12_isNodeb l dC dI a k h0 vi vj vF vG H.size) (cwV 1 hts gwsRX12_canBegin_4 rfl rfl rfl hd_yX12_isNode_RX12 (by decide +kernel)) (fz_pre (va_recv hK hP (ci := 12) (q0 := 0) rfl rfl) hP hK hD) rfl rfl hl.1 rfl (lv_room (Nat.le_of_ble_eq_true rfl)) dX12_canBegin_81 (by decide +kernel)) hS (fun q _ h => hFc q h) hFc (fun r81_2 u t9_ H locs ht hvm hw9 hB9 hz1 hk1 hS => ?_)
              have hP : va_P (dC, dI) vwCl (WR a k h0 vi vj vF vG) H := fz_P ht hB9.1
              have hD := fz_sd hP (hB9.2.weaken (fun _ q _ h => hFc q.1 h)) rfl
              obtain rfl := hw9
              refine lv_if_ne (tgt := 96) hx hb dX12_canBegin_84 (by decide) (fun c9 => absurd c9 (by decide)) (fun _ => ?_)
              refine lv_aload_n hx hb dX12_canBegin_87 rfl (lv_at hl 1 rfl) ?_
              refine lv_iconst (v := 3) hx hb dX12_canBegin_88 (by decide) ?_
              refine lv_aload_n hx hb dX12_canBegin_89 rfl (lv_at hl 1 rfl) ?_
              refine va_get (D := (dC, dI)) (ci := 12) (v := .int (vi 19)) (C := RX12) (T := TX12) (N := 163) (fs := fM (vS a vi vj)) hx hb hts iwsRX12_canBegin_in12 hown hK hP 0 rfl rfl 19 (by decide) (hts _ hm_r_X12_canBegin_2) (fun _ h9 => h9) rfl dX12_canBegin_90 ?_
              refine lv_topi (fun y3 hy3 => ?_)
              obtain rfl : (nI fn) = y3 := (hy3.trans (hfr)).symm
              have hFc := allFree hD hS hA
              refine va_callv (va_runV (As := [.int 3, .int (nI fn)]) (rest := []) ⟨hx, hb, hml, hown, hts⟩ (r_X12_faultAt l dC dI a k h0 vi vj vF vG 3 (nI fn) (by first | with_reducible assumption | decide | omega | rfl | assumption) H.size) (cwV 2 hts gwsRX12_canBegin_5 rfl rfl rfl hd_yX12_faultAt_RX12 (by decide +kernel)) (fz_pre (va_recv hK hP (ci := 12) (q0 := 0) rfl rfl) hP hK hD) rfl rfl hl.1 rfl (lv_room (Nat.le_of_ble_eq_true rfl)) dX12_canBegin_93 (by decide +kernel)) hS (fun q _ h => hFc q h) hFc (fun u t9_ H locs ht hvm hw9 hB9 hz1 hk1 hS => ?_)
              revert u hw9 hB9
              refine fz_p2 ?_
              intro s293_2 p293_2 hw9 hB9
              try dsimp only at hw9 hB9
              have hP : va_P (dC, dI) vwCl (WR a k h0 (fT (fT vi 21 s293_2) 22 p293_2) vj vF vG) H := fz_P ht hB9.1
              have hD := fz_sd hP (hB9.2.weaken (fun _ q _ h => hFc q.1 h)) rfl
              revert hw9
              refine fz_a2 ?_
              intro f93_2_0 f93_2_1
              have f93_2_0 : (0 < (vi 21).toInt ∧ s293_2 = (vi 21) ∧ p293_2 = (vi 22)) ∨ (¬ 0 < (vi 21).toInt ∧ s293_2 = 3 ∧ p293_2 = (nI fn)) := f93_2_0
              refine lv_aload_n hx hb dX12_canBegin_96 rfl (lv_at hl 1 rfl) ?_
              refine va_get (D := (dC, dI)) (ci := 12) (v := .int s293_2) (C := RX12) (T := TX12) (N := 163) (fs := fM (vS a (fT (fT vi 21 s293_2) 22 p293_2) vj)) hx hb hts iwsRX12_canBegin_in12 hown hK hP 0 rfl rfl 21 (by decide) (hts _ hm_r_X12_canBegin_1) (fun _ h9 => h9) rfl dX12_canBegin_97 ?_
              refine lv_if_ne (tgt := 107) hx hb dX12_canBegin_100 (by decide) (fun c_100 => ?_) (fun c9 => False.elim (by have t9 : (s293_2).toInt = 0 := toI_nne c9 rfl (by decide); omega))
              have t_100 : (s293_2).toInt ≠ 0 := toI_ne c_100 rfl (by decide)
              refine lv_iconst (v := 0) hx hb dX12_canBegin_107 (by decide) ?_
              refine W.widen (k := 0) (n := 0) (by decide +kernel) (by decide +kernel) ?_
              exact W.zret (v := 0) hx hb hr rfl (fun t9_ ht hW => ⟨⟨0, (s293_2, p293_2), rfl, by (try dsimp only); exact Or.inr ⟨rfl, by omega⟩, by rw [ht]; exact hP, hD⟩, hS.F ht⟩) hS.2.2 dX12_canBegin_108
            · have f78_1_1 : SmW (vF 9) (vF 11) (vF 12) fn an kx78_1 := f78_1_1
              have f78_1_2 : ∀ k, k < kx78_1 → ¬ SmW (vF 9) (vF 11) (vF 12) fn an k := f78_1_2
              have hFc := allFree hD hS hA
              refine va_calli (va_runV (As := [.int (nI kx78_1)]) (rest := []) ⟨hx, hb, hml, hown, hts⟩ (r_X12_isNodea l dC dI a k h0 vi vj vF vG kx78_1 (by first | with_reducible assumption | decide | omega | rfl | assumption) H.size) (cwV 1 hts gwsRX12_canBegin_6 rfl rfl rfl hd_yX12_isNode_RX12 (by decide +kernel)) (fz_pre (va_recv hK hP (ci := 12) (q0 := 0) rfl rfl) hP hK hD) rfl rfl hl.1 rfl (lv_room (Nat.le_of_ble_eq_true rfl)) dX12_canBegin_81 (by decide +kernel)) hS (fun q _ h => hFc q h) hFc (fun r81_3 u t9_ H locs ht hvm hw9 hB9 hz1 hk1 hS => ?_)
              have hP : va_P (dC, dI) vwCl (WR a k h0 vi vj vF vG) H := fz_P ht hB9.1
              have hD := fz_sd hP (hB9.2.weaken (fun _ q _ h => hFc q.1 h)) rfl
              rcases hw9 with ⟨rfl, f81_3_0⟩ | ⟨rfl, f81_3_0⟩
              · have f81_3_0 : (vF 10) kx78_1 = 2 ∨ (vF 10) kx78_1 = 3 := f81_3_0
                refine lv_if_ne (tgt := 96) hx hb dX12_canBegin_84 (by decide) (fun _ => ?_) (fun c9 => absurd c9 (by decide))
                refine lv_aload_n hx hb dX12_canBegin_96 rfl (lv_at hl 1 rfl) ?_
                refine va_get (D := (dC, dI)) (ci := 12) (v := .int (vi 21)) (C := RX12) (T := TX12) (N := 163) (fs := fM (vS a vi vj)) hx hb hts iwsRX12_canBegin_in12 hown hK hP 0 rfl rfl 21 (by decide) (hts _ hm_r_X12_canBegin_1) (fun _ h9 => h9) rfl dX12_canBegin_97 ?_
                refine lv_if_ne (tgt := 107) hx hb dX12_canBegin_100 (by decide) (fun c_100 => ?_) (fun c_100 => ?_)
                · have t_100 : ((vi 21)).toInt ≠ 0 := toI_ne c_100 rfl (by decide)
                  refine lv_iconst (v := 0) hx hb dX12_canBegin_107 (by decide) ?_
                  refine W.widen (k := 0) (n := 0) (by decide +kernel) (by decide +kernel) ?_
                  have e9 : fT (fT vi 21 (vi 21)) 22 (vi 22) = vi := (fT_id _ _ (fT_ne _ _ (Nat.ne_of_beq_eq_false rfl))).trans (fT_id _ _ (rfl))
                  have hP := wr_Pi e9 hP
                  have hD := wr_Di e9 hD
                  clear e9
                  exact W.zret (v := 0) hx hb hr rfl (fun t9_ ht hW => ⟨⟨0, ((vi 21), (vi 22)), rfl, by (try dsimp only); exact Or.inr ⟨rfl, by omega⟩, by rw [ht]; exact hP, hD⟩, hS.F ht⟩) hS.2.2 dX12_canBegin_108
                · have t_100 : ((vi 21)).toInt = 0 := toI_nne c_100 rfl (by decide)
                  refine lv_iconst (v := 1) hx hb dX12_canBegin_103 (by decide) ?_
                  refine lv_goto (tgt := 108) hx hb dX12_canBegin_104 (by decide) ?_
                  refine W.widen (k := 0) (n := 0) (by decide +kernel) (by decide +kernel) ?_
                  have e9 : fT (fT vi 21 (vi 21)) 22 (vi 22) = vi := (fT_id _ _ (fT_ne _ _ (Nat.ne_of_beq_eq_false rfl))).trans (fT_id _ _ (rfl))
                  have hP := wr_Pi e9 hP
                  have hD := wr_Di e9 hD
                  clear e9
                  exact W.zret (v := 1) hx hb hr rfl (fun t9_ ht hW => ⟨⟨1, ((vi 21), (vi 22)), rfl, by (try dsimp only); exact Or.inl ⟨rfl, i32z (by omega), (hzq.resolve_right (fun h => c_50 h.1)).2, fun _ => by first | exact Or.inl ⟨kx69, f69_0, f69_1⟩ | exact Or.inr ⟨kx78_1, f78_1_0, f78_1_1, f78_1_2, f81_3_0⟩⟩, by rw [ht]; exact hP, hD⟩, hS.F ht⟩) hS.2.2 dX12_canBegin_108
              · have f81_3_0 : ¬ ((vF 10) kx78_1 = 2 ∨ (vF 10) kx78_1 = 3) := f81_3_0
                refine lv_if_ne (tgt := 96) hx hb dX12_canBegin_84 (by decide) (fun c9 => absurd c9 (by decide)) (fun _ => ?_)
                refine lv_aload_n hx hb dX12_canBegin_87 rfl (lv_at hl 1 rfl) ?_
                refine lv_iconst (v := 3) hx hb dX12_canBegin_88 (by decide) ?_
                refine lv_aload_n hx hb dX12_canBegin_89 rfl (lv_at hl 1 rfl) ?_
                refine va_get (D := (dC, dI)) (ci := 12) (v := .int (vi 19)) (C := RX12) (T := TX12) (N := 163) (fs := fM (vS a vi vj)) hx hb hts iwsRX12_canBegin_in12 hown hK hP 0 rfl rfl 19 (by decide) (hts _ hm_r_X12_canBegin_2) (fun _ h9 => h9) rfl dX12_canBegin_90 ?_
                refine lv_topi (fun y4 hy4 => ?_)
                obtain rfl : (nI fn) = y4 := (hy4.trans (hfr)).symm
                have hFc := allFree hD hS hA
                refine va_callv (va_runV (As := [.int 3, .int (nI fn)]) (rest := []) ⟨hx, hb, hml, hown, hts⟩ (r_X12_faultAt l dC dI a k h0 vi vj vF vG 3 (nI fn) (by first | with_reducible assumption | decide | omega | rfl | assumption) H.size) (cwV 2 hts gwsRX12_canBegin_5 rfl rfl rfl hd_yX12_faultAt_RX12 (by decide +kernel)) (fz_pre (va_recv hK hP (ci := 12) (q0 := 0) rfl rfl) hP hK hD) rfl rfl hl.1 rfl (lv_room (Nat.le_of_ble_eq_true rfl)) dX12_canBegin_93 (by decide +kernel)) hS (fun q _ h => hFc q h) hFc (fun u t9_ H locs ht hvm hw9 hB9 hz1 hk1 hS => ?_)
                revert u hw9 hB9
                refine fz_p2 ?_
                intro s293_3 p293_3 hw9 hB9
                try dsimp only at hw9 hB9
                have hP : va_P (dC, dI) vwCl (WR a k h0 (fT (fT vi 21 s293_3) 22 p293_3) vj vF vG) H := fz_P ht hB9.1
                have hD := fz_sd hP (hB9.2.weaken (fun _ q _ h => hFc q.1 h)) rfl
                revert hw9
                refine fz_a2 ?_
                intro f93_3_0 f93_3_1
                have f93_3_0 : (0 < (vi 21).toInt ∧ s293_3 = (vi 21) ∧ p293_3 = (vi 22)) ∨ (¬ 0 < (vi 21).toInt ∧ s293_3 = 3 ∧ p293_3 = (nI fn)) := f93_3_0
                refine lv_aload_n hx hb dX12_canBegin_96 rfl (lv_at hl 1 rfl) ?_
                refine va_get (D := (dC, dI)) (ci := 12) (v := .int s293_3) (C := RX12) (T := TX12) (N := 163) (fs := fM (vS a (fT (fT vi 21 s293_3) 22 p293_3) vj)) hx hb hts iwsRX12_canBegin_in12 hown hK hP 0 rfl rfl 21 (by decide) (hts _ hm_r_X12_canBegin_1) (fun _ h9 => h9) rfl dX12_canBegin_97 ?_
                refine lv_if_ne (tgt := 107) hx hb dX12_canBegin_100 (by decide) (fun c_100 => ?_) (fun c9 => False.elim (by have t9 : (s293_3).toInt = 0 := toI_nne c9 rfl (by decide); omega))
                have t_100 : (s293_3).toInt ≠ 0 := toI_ne c_100 rfl (by decide)
                refine lv_iconst (v := 0) hx hb dX12_canBegin_107 (by decide) ?_
                refine W.widen (k := 0) (n := 0) (by decide +kernel) (by decide +kernel) ?_
                exact W.zret (v := 0) hx hb hr rfl (fun t9_ ht hW => ⟨⟨0, (s293_3, p293_3), rfl, by (try dsimp only); exact Or.inr ⟨rfl, by omega⟩, by rw [ht]; exact hP, hD⟩, hS.F ht⟩) hS.2.2 dX12_canBegin_108
    · have t_50 : (zq).toInt = 0 := toI_nne c_50 rfl (by decide)
      refine lv_aload_n hx hb dX12_canBegin_53 rfl (lv_at hl 1 rfl) ?_
      have hFc := allFree hD hS hA
      refine va_callv (va_runV (As := []) (rest := []) ⟨hx, hb, hml, hown, hts⟩ (r_X12_wrong l dC dI a k h0 vi vj vF vG H.size) (cwV 0 hts gwsRX12_canBegin_7 rfl rfl rfl hd_yX12_wrong_RX12 (by decide +kernel)) (fz_pre (va_recv hK hP (ci := 12) (q0 := 0) rfl rfl) hP hK hD) rfl rfl hl.1 rfl (lv_room (Nat.le_of_ble_eq_true rfl)) dX12_canBegin_54 (by decide +kernel)) hS (fun q _ h => hFc q h) hFc (fun u t9_ H locs ht hvm hw9 hB9 hz1 hk1 hS => ?_)
      revert u hw9 hB9
      refine fz_p2 ?_
      intro s254 p254 hw9 hB9
      try dsimp only at hw9 hB9
      have hP : va_P (dC, dI) vwCl (WR a k h0 (fT (fT vi 21 s254) 22 p254) vj vF vG) H := fz_P ht hB9.1
      have hD := fz_sd hP (hB9.2.weaken (fun _ q _ h => hFc q.1 h)) rfl
      revert hw9
      refine fz_a2 ?_
      intro f54_0 f54_1
      have f54_0 : (0 < (vi 21).toInt ∧ s254 = (vi 21) ∧ p254 = (vi 22)) ∨ (¬ 0 < (vi 21).toInt ∧ (s254 = 1 ∨ s254 = 2) ∧ p254 = (vi 19)) := f54_0
      refine lv_goto (tgt := 96) hx hb dX12_canBegin_57 (by decide) ?_
      refine lv_aload_n hx hb dX12_canBegin_96 rfl (lv_at hl 1 rfl) ?_
      refine va_get (D := (dC, dI)) (ci := 12) (v := .int s254) (C := RX12) (T := TX12) (N := 163) (fs := fM (vS a (fT (fT vi 21 s254) 22 p254) vj)) hx hb hts iwsRX12_canBegin_in12 hown hK hP 0 rfl rfl 21 (by decide) (hts _ hm_r_X12_canBegin_1) (fun _ h9 => h9) rfl dX12_canBegin_97 ?_
      refine lv_if_ne (tgt := 107) hx hb dX12_canBegin_100 (by decide) (fun c_100 => ?_) (fun c9 => False.elim (by have t9 : (s254).toInt = 0 := toI_nne c9 rfl (by decide); omega))
      have t_100 : (s254).toInt ≠ 0 := toI_ne c_100 rfl (by decide)
      refine lv_iconst (v := 0) hx hb dX12_canBegin_107 (by decide) ?_
      refine W.widen (k := 0) (n := 0) (by decide +kernel) (by decide +kernel) ?_
      exact W.zret (v := 0) hx hb hr rfl (fun t9_ ht hW => ⟨⟨0, (s254, p254), rfl, by (try dsimp only); exact Or.inr ⟨rfl, by omega⟩, by rw [ht]; exact hP, hD⟩, hS.F ht⟩) hS.2.2 dX12_canBegin_108
end
section
theorem hd_yX12_canBegin_RX12 : yX12_canBegin.cls = RX12 ∧ yX12_canBegin.cls ≠ "java/lang/invoke/MethodHandle" ∧ yX12_canBegin.cls ≠ "java/lang/invoke/VarHandle" ∧ (parseMethodDescriptor yX12_canBegin.desc).map (fun d => d.parameters.length) = some 0 := by decide +kernel
theorem hd_yX12_begin1_RX12 : yX12_begin1.cls = RX12 ∧ yX12_begin1.cls ≠ "java/lang/invoke/MethodHandle" ∧ yX12_begin1.cls ≠ "java/lang/invoke/VarHandle" ∧ (parseMethodDescriptor yX12_begin1.desc).map (fun d => d.parameters.length) = some 1 := by decide +kernel
def wsRend1w : List Cond := .code yX12_end1 cX12_end1 2 none :: ([.fieldLink RX12 577 "OptimaWorksModel" "deep" "I", .fieldLink RX12 570 "OptimaWorksModel" "within" "I", .fieldLink RX12 167 "OptimaWorksModel" "extra" "[I", .fieldLink RX12 580 "OptimaWorksModel" "result" "I", .fieldLink RX12 164 "OptimaWorksModel" "begins" "[I", .fieldLink RX12 583 "OptimaWorksModel" "resultFirst" "I"] ++ wsX120)
theorem iwsRend1w_in12 : ∀ w ∈ wsX120, w ∈ wsRend1w := fun _ h => List.mem_cons_of_mem _ (List.mem_append_right _ h)
theorem gdwsRend1w : wsRend1w.all goodWord = true := gdC rfl (gdA (by decide +kernel : ([.fieldLink RX12 577 "OptimaWorksModel" "deep" "I", .fieldLink RX12 570 "OptimaWorksModel" "within" "I", .fieldLink RX12 167 "OptimaWorksModel" "extra" "[I", .fieldLink RX12 580 "OptimaWorksModel" "result" "I", .fieldLink RX12 164 "OptimaWorksModel" "begins" "[I", .fieldLink RX12 583 "OptimaWorksModel" "resultFirst" "I"] : List Cond).all goodWord = true) gdwsX120)
theorem hm_r_X12_end1w_0 : (.fieldLink RX12 577 "OptimaWorksModel" "deep" "I" : Cond) ∈ wsRend1w := by decide +kernel
theorem hm_r_X12_end1w_1 : (.fieldLink RX12 570 "OptimaWorksModel" "within" "I" : Cond) ∈ wsRend1w := by decide +kernel
set_option maxHeartbeats 4000000 in
set_option maxRecDepth 100000 in
/-- end1(r), with its depth -/
theorem r_X12_end1w (l : Launch) (dC : Nat → ClassId) (dI : Nat → Nat → Nat) (a : Nat → Nat) (k : Nat → ClassId) (h0 : Nat) (vi : Nat → Int32) (vj : Nat → Int64) (vF : Nat → Nat → Int32) (vG : Nat → Nat → Int64) (rv : Int32) (dE : Nat) (wi : Nat) (xE : Nat) (hdE : vi 74 = nI (dE + 1)) (hdE9 : dE < 120) (hwi : vi 75 = nI wi) (hwi9 : wi ≤ 25) (hxE : vF 48 dE = nI xE) (hxw : xE ≤ wi) (sz : Nat) : Met l yX12_end1 wsRend1w ({ frames := 0, cells := 0, slots := 0, locals := 0 }) (va_Pc [.ref h0, .int rv] (fun U => U.heap.size = sz ∧ va_P (dC, dI) vwCl (WR a k h0 vi vj vF vG) U.heap ∧ va_K (dC, dI) vwCl (tX12 k) U ∧ va_D (fun _ => True) (WR a k h0 vi vj vF vG))) (va_Qv (fun (u : Unit) => True) (fun (u : Unit) t => va_P (dC, dI) vwCl (WR a k h0 (fT (fT (fT (fT vi 74 (nI dE)) 75 (nI (wi - xE))) 76 rv) 77 (vF 47 dE)) vj vF vG) t.heap ∧ va_D (va_A (WR a k h0 vi vj vF vG) sz) (WR a k h0 (fT (fT (fT (fT vi 74 (nI dE)) 75 (nI (wi - xE))) 76 rv) 77 (vF 47 dE)) vj vF vG)) (va_A (WR a k h0 vi vj vF vG) sz)) 0 0 (va_A (WR a k h0 vi vj vF vG) sz) := by
  refine Met.ofW (cc := cX12_end1) (maxL := 2) (ret := none) (by decide) rfl ?_
  intro p e s m args below meth c s₁ B hml hv
  obtain ⟨rfl, hsz, hP, hK, hD0⟩ := hv
  have hx := B.exec
  have hb := B.bytes
  have hr := B.returns
  have hts := atoms_spec (ws := wsRend1w) B.pre
  have hown : s.vm.findClass RX12 = some m.cls := findClass_of_methodNamed B.named
  have hlocks := B.notSynchronized
  subst hsz
  have hD := hD0.self (sz := s.heap.size)
  generalize hAe : va_A (WR a k h0 vi vj vF vG) s.heap.size = A at hD ⊢
  have hA : ∀ q : Nat, s.heap.size ≤ q → A q := fun q h => by rw [← hAe]; exact Or.inr h
  have hS : va_S A s.heap s.heap [] := va_S.rf
  have hl := lv_entry ([.ref h0, .int rv]) (n := 2) (Nat.le_of_ble_eq_true rfl)
  rw [lg_entry_eq]
  generalize (lg_sl ([.ref h0, .int rv]) ++ List.replicate (2 - (lg_sl ([.ref h0, .int rv])).length) Slot.unset).toArray = ls at hl ⊢
  have hl : lv_has ls 2 [(0, .ref h0), (1, .int rv)] := hl
  refine lv_aload_n hx hb dX12_end1_0 rfl (lv_at hl 0 rfl) ?_
  refine lv_dup hx hb dX12_end1_1 rfl ?_
  refine va_get (D := (dC, dI)) (ci := 12) (v := .int (vi 74)) (C := RX12) (T := TX12) (N := 163) (fs := fM (vS a vi vj)) hx hb hts iwsRend1w_in12 hown hK hP 0 rfl rfl 74 (by decide) (hts _ hm_r_X12_end1w_0) (fun _ h9 => h9) rfl dX12_end1_2 ?_
  refine lv_topi (fun y1 hy1 => ?_)
  obtain rfl : (nI (dE + 1)) = y1 := (hy1.trans (hdE)).symm
  refine lv_iconst (v := 1) hx hb dX12_end1_5 (by decide) ?_
  refine lv_isub hx hb dX12_end1_6 ?_
  refine lv_topi (fun y2 hy2 => ?_)
  obtain rfl : (nI ((dE + 1) - 1)) = y2 := (hy2.trans (pk_sub (a := (dE + 1)) (b := 1) (by omega))).symm
  refine va_put (D := (dC, dI)) (ci := 12) (v := .int (nI ((dE + 1) - 1))) (ty := .int) (C := RX12) (T := TX12) (N := 163) (fs := fM (vS a vi vj)) hx hb hts iwsRend1w_in12 tyX12 tyX12_ok nmX12 hown hK hP hD hS 0 rfl rfl 74 (by decide) (hts _ hm_r_X12_end1w_0) (fun _ h9 => h9) rfl (by decide +kernel) rfl rfl (Nat.le_of_ble_eq_true rfl) dX12_end1_7 (fun H locs hP hD hS => ?_)
  have hP : va_P (dC, dI) vwCl (WR a k h0 (fT vi 74 (nI ((dE + 1) - 1))) vj vF vG) H := fz_w (WR_i 74 _ rfl) hP
  have hD : va_D A (WR a k h0 (fT vi 74 (nI ((dE + 1) - 1))) vj vF vG) := fz_wD (WR_i 74 _ rfl) hD
  refine lv_aload_n hx hb dX12_end1_10 rfl (lv_at hl 0 rfl) ?_
  refine lv_dup hx hb dX12_end1_11 rfl ?_
  refine va_get (D := (dC, dI)) (ci := 12) (v := .int (vi 75)) (C := RX12) (T := TX12) (N := 163) (fs := fM (vS a (fT vi 74 (nI ((dE + 1) - 1))) vj)) hx hb hts iwsRend1w_in12 hown hK hP 0 rfl rfl 75 (by decide) (hts _ hm_r_X12_end1w_1) (fun _ h9 => h9) rfl dX12_end1_12 ?_
  refine lv_topi (fun y3 hy3 => ?_)
  obtain rfl : (nI wi) = y3 := (hy3.trans (hwi)).symm
  refine lv_aload_n hx hb dX12_end1_15 rfl (lv_at hl 0 rfl) ?_
  refine va_get (D := (dC, dI)) (ci := 12) (v := .ref (a 48)) (C := RX12) (T := TX12) (N := 163) (fs := fM (vS a (fT vi 74 (nI ((dE + 1) - 1))) vj)) hx hb hts iwsRend1w_in12 hown hK hP 0 rfl rfl 73 (by decide) (hts (.fieldLink RX12 167 "OptimaWorksModel" "extra" "[I") (by decide +kernel)) (fun _ h9 => h9) rfl dX12_end1_16 ?_
  refine lv_aload_n hx hb dX12_end1_19 rfl (lv_at hl 0 rfl) ?_
  refine va_get (D := (dC, dI)) (ci := 12) (v := .int (nI ((dE + 1) - 1))) (C := RX12) (T := TX12) (N := 163) (fs := fM (vS a (fT vi 74 (nI ((dE + 1) - 1))) vj)) hx hb hts iwsRend1w_in12 hown hK hP 0 rfl rfl 74 (by decide) (hts _ hm_r_X12_end1w_0) (fun _ h9 => h9) rfl dX12_end1_20 ?_
  refine va_iald (cA := k 48) (n := 120) (f := (vF 48)) hx hb hK hP 49 48 (WR_get 48 (by decide)) (TR_get 48 (by decide)) (vp_in_nI (show ((dE + 1) - 1) < 120 by omega) (by omega)) dX12_end1_23 ?_
  refine lv_topi (fun y4 hy4 => ?_)
  obtain rfl : ((vF 48) ((dE + 1) - 1)) = y4 := (hy4.trans (by rw [nI_clamp (by omega)])).symm
  refine lv_topi (fun y5 hy5 => ?_)
  obtain rfl : (nI xE) = y5 := (hy5.trans (hxE)).symm
  refine lv_isub hx hb dX12_end1_24 ?_
  refine lv_topi (fun y6 hy6 => ?_)
  obtain rfl : (nI (wi - xE)) = y6 := (hy6.trans (pk_sub (a := wi) (b := xE) (by omega))).symm
  refine va_put (D := (dC, dI)) (ci := 12) (v := .int (nI (wi - xE))) (ty := .int) (C := RX12) (T := TX12) (N := 163) (fs := fM (vS a (fT vi 74 (nI ((dE + 1) - 1))) vj)) hx hb hts iwsRend1w_in12 tyX12 tyX12_ok nmX12 hown hK hP hD hS 0 rfl rfl 75 (by decide) (hts _ hm_r_X12_end1w_1) (fun _ h9 => h9) rfl (by decide +kernel) rfl rfl (Nat.le_of_ble_eq_true rfl) dX12_end1_25 (fun H locs hP hD hS => ?_)
  have hP : va_P (dC, dI) vwCl (WR a k h0 (fT (fT vi 74 (nI ((dE + 1) - 1))) 75 (nI (wi - xE))) vj vF vG) H := fz_w (WR_i 75 _ rfl) hP
  have hD : va_D A (WR a k h0 (fT (fT vi 74 (nI ((dE + 1) - 1))) 75 (nI (wi - xE))) vj vF vG) := fz_wD (WR_i 75 _ rfl) hD
  refine lv_aload_n hx hb dX12_end1_28 rfl (lv_at hl 0 rfl) ?_
  refine lv_iload_n hx hb dX12_end1_29 rfl (lv_at hl 1 rfl) ?_
  refine va_put (D := (dC, dI)) (ci := 12) (v := .int rv) (ty := .int) (C := RX12) (T := TX12) (N := 163) (fs := fM (vS a (fT (fT vi 74 (nI ((dE + 1) - 1))) 75 (nI (wi - xE))) vj)) hx hb hts iwsRend1w_in12 tyX12 tyX12_ok nmX12 hown hK hP hD hS 0 rfl rfl 76 (by decide) (hts (.fieldLink RX12 580 "OptimaWorksModel" "result" "I") (by decide +kernel)) (fun _ h9 => h9) rfl (by decide +kernel) rfl rfl (Nat.le_of_ble_eq_true rfl) dX12_end1_30 (fun H locs hP hD hS => ?_)
  have hP : va_P (dC, dI) vwCl (WR a k h0 (fT (fT (fT vi 74 (nI ((dE + 1) - 1))) 75 (nI (wi - xE))) 76 rv) vj vF vG) H := fz_w (WR_i 76 _ rfl) hP
  have hD : va_D A (WR a k h0 (fT (fT (fT vi 74 (nI ((dE + 1) - 1))) 75 (nI (wi - xE))) 76 rv) vj vF vG) := fz_wD (WR_i 76 _ rfl) hD
  refine lv_aload_n hx hb dX12_end1_33 rfl (lv_at hl 0 rfl) ?_
  refine lv_aload_n hx hb dX12_end1_34 rfl (lv_at hl 0 rfl) ?_
  refine va_get (D := (dC, dI)) (ci := 12) (v := .ref (a 47)) (C := RX12) (T := TX12) (N := 163) (fs := fM (vS a (fT (fT (fT vi 74 (nI ((dE + 1) - 1))) 75 (nI (wi - xE))) 76 rv) vj)) hx hb hts iwsRend1w_in12 hown hK hP 0 rfl rfl 72 (by decide) (hts (.fieldLink RX12 164 "OptimaWorksModel" "begins" "[I") (by decide +kernel)) (fun _ h9 => h9) rfl dX12_end1_35 ?_
  refine lv_aload_n hx hb dX12_end1_38 rfl (lv_at hl 0 rfl) ?_
  refine va_get (D := (dC, dI)) (ci := 12) (v := .int (nI ((dE + 1) - 1))) (C := RX12) (T := TX12) (N := 163) (fs := fM (vS a (fT (fT (fT vi 74 (nI ((dE + 1) - 1))) 75 (nI (wi - xE))) 76 rv) vj)) hx hb hts iwsRend1w_in12 hown hK hP 0 rfl rfl 74 (by decide) (hts _ hm_r_X12_end1w_0) (fun _ h9 => h9) rfl dX12_end1_39 ?_
  refine va_iald (cA := k 47) (n := 120) (f := (vF 47)) hx hb hK hP 48 47 (WR_get 47 (by decide)) (TR_get 47 (by decide)) (vp_in_nI (show ((dE + 1) - 1) < 120 by omega) (by omega)) dX12_end1_42 ?_
  refine lv_topi (fun y7 hy7 => ?_)
  obtain rfl : ((vF 47) ((dE + 1) - 1)) = y7 := (hy7.trans (by rw [nI_clamp (by omega)])).symm
  refine va_put (D := (dC, dI)) (ci := 12) (v := .int ((vF 47) ((dE + 1) - 1))) (ty := .int) (C := RX12) (T := TX12) (N := 163) (fs := fM (vS a (fT (fT (fT vi 74 (nI ((dE + 1) - 1))) 75 (nI (wi - xE))) 76 rv) vj)) hx hb hts iwsRend1w_in12 tyX12 tyX12_ok nmX12 hown hK hP hD hS 0 rfl rfl 77 (by decide) (hts (.fieldLink RX12 583 "OptimaWorksModel" "resultFirst" "I") (by decide +kernel)) (fun _ h9 => h9) rfl (by decide +kernel) rfl rfl (Nat.le_of_ble_eq_true rfl) dX12_end1_43 (fun H locs hP hD hS => ?_)
  have hP : va_P (dC, dI) vwCl (WR a k h0 (fT (fT (fT (fT vi 74 (nI ((dE + 1) - 1))) 75 (nI (wi - xE))) 76 rv) 77 ((vF 47) ((dE + 1) - 1))) vj vF vG) H := fz_w (WR_i 77 _ rfl) hP
  have hD : va_D A (WR a k h0 (fT (fT (fT (fT vi 74 (nI ((dE + 1) - 1))) 75 (nI (wi - xE))) 76 rv) 77 ((vF 47) ((dE + 1) - 1))) vj vF vG) := fz_wD (WR_i 77 _ rfl) hD
  refine W.widen (k := 0) (n := 0) (by decide +kernel) (by decide +kernel) ?_
  have e9 : fT (fT (fT (fT vi 74 (nI dE)) 75 (nI (wi - xE))) 76 rv) 77 (vF 47 dE) = fT (fT (fT (fT vi 74 (nI ((dE + 1) - 1))) 75 (nI (wi - xE))) 76 rv) 77 ((vF 47) ((dE + 1) - 1)) := Eq.trans (mv_3 rfl) (Eq.trans (congrArg (fT _ 74) (show nI dE = nI ((dE + 1) - 1) from (by first | with_reducible rfl | with_reducible assumption | (symm; with_reducible assumption) | rfl | assumption | (symm; assumption) | (subst_vars; rfl)))) (Eq.trans (mv_3 rfl) (Eq.trans (mv_3 rfl) (Eq.trans (mv_3 rfl) (congrArg (fT _ 77) (show vF 47 dE = (vF 47) ((dE + 1) - 1) from (by first | with_reducible rfl | with_reducible assumption | (symm; with_reducible assumption) | rfl | assumption | (symm; assumption) | (subst_vars; rfl))))))))
  have hP := wr_Pi e9 hP
  have hD := wr_Di e9 hD
  clear e9
  exact W.vret hx hb hr (fun t9_ ht hW => ⟨⟨(), rfl, trivial, by rw [ht]; exact hP, hD⟩, hS.F ht⟩) hS.2.2 dX12_end1_46
theorem dX12_begin1_0 : decode cX12_begin1 0 = .ok (.aload_n 0, 1) := dk_42 (by decide +kernel)
theorem dX12_begin1_1 : decode cX12_begin1 1 = .ok (.getfield 515, 3) := dk_180 (by decide +kernel)
theorem dX12_begin1_4 : decode cX12_begin1 4 = .ok (.ifCond .le 4, 3) := dk_158 (by decide +kernel)
theorem dX12_begin1_7 : decode cX12_begin1 7 = .ok (.return_, 1) := dk_177 (by decide +kernel)
theorem dX12_begin1_8 : decode cX12_begin1 8 = .ok (.iload_n 1, 1) := dk_27 (by decide +kernel)
theorem dX12_begin1_9 : decode cX12_begin1 9 = .ok (.iconst 3, 1) := dk_6 (by decide +kernel)
theorem dX12_begin1_10 : decode cX12_begin1 10 = .ok (.if_icmp .ne 12, 3) := dk_160 (by decide +kernel)
theorem dX12_begin1_13 : decode cX12_begin1 13 = .ok (.aload_n 0, 1) := dk_42 (by decide +kernel)
theorem dX12_begin1_14 : decode cX12_begin1 14 = .ok (.bipush 10, 2) := dk_16 (by decide +kernel)
theorem dX12_begin1_16 : decode cX12_begin1 16 = .ok (.invokevirtual 530, 3) := dk_182 (by decide +kernel)
theorem dX12_begin1_19 : decode cX12_begin1 19 = .ok (.ifCond .eq 7, 3) := dk_153 (by decide +kernel)
theorem dX12_begin1_22 : decode cX12_begin1 22 = .ok (.iconst 1, 1) := dk_4 (by decide +kernel)
theorem dX12_begin1_23 : decode cX12_begin1 23 = .ok (.goto 4, 3) := dk_167 (by decide +kernel)
theorem dX12_begin1_26 : decode cX12_begin1 26 = .ok (.iconst 0, 1) := dk_3 (by decide +kernel)
theorem dX12_begin1_27 : decode cX12_begin1 27 = .ok (.istore_n 2, 1) := dk_61 (by decide +kernel)
theorem dX12_begin1_28 : decode cX12_begin1 28 = .ok (.iload_n 2, 1) := dk_28 (by decide +kernel)
theorem dX12_begin1_29 : decode cX12_begin1 29 = .ok (.ifCond .eq 67, 3) := dk_153 (by decide +kernel)
theorem dX12_begin1_32 : decode cX12_begin1 32 = .ok (.aload_n 0, 1) := dk_42 (by decide +kernel)
theorem dX12_begin1_33 : decode cX12_begin1 33 = .ok (.getfield 570, 3) := dk_180 (by decide +kernel)
theorem dX12_begin1_36 : decode cX12_begin1 36 = .ok (.bipush 25, 2) := dk_16 (by decide +kernel)
theorem dX12_begin1_38 : decode cX12_begin1 38 = .ok (.if_icmp .ne 58, 3) := dk_160 (by decide +kernel)
theorem dX12_begin1_41 : decode cX12_begin1 41 = .ok (.iload_n 1, 1) := dk_27 (by decide +kernel)
theorem dX12_begin1_42 : decode cX12_begin1 42 = .ok (.iconst 2, 1) := dk_5 (by decide +kernel)
theorem dX12_begin1_43 : decode cX12_begin1 43 = .ok (.if_icmp .eq 8, 3) := dk_159 (by decide +kernel)
theorem dX12_begin1_46 : decode cX12_begin1 46 = .ok (.iload_n 1, 1) := dk_27 (by decide +kernel)
theorem dX12_begin1_47 : decode cX12_begin1 47 = .ok (.iconst 3, 1) := dk_6 (by decide +kernel)
theorem dX12_begin1_48 : decode cX12_begin1 48 = .ok (.if_icmp .ne 7, 3) := dk_160 (by decide +kernel)
theorem dX12_begin1_51 : decode cX12_begin1 51 = .ok (.iconst 1, 1) := dk_4 (by decide +kernel)
theorem dX12_begin1_52 : decode cX12_begin1 52 = .ok (.goto 4, 3) := dk_167 (by decide +kernel)
theorem dX12_begin1_55 : decode cX12_begin1 55 = .ok (.iconst 0, 1) := dk_3 (by decide +kernel)
theorem dX12_begin1_56 : decode cX12_begin1 56 = .ok (.istore_n 3, 1) := dk_62 (by decide +kernel)
theorem dX12_begin1_57 : decode cX12_begin1 57 = .ok (.iload_n 3, 1) := dk_29 (by decide +kernel)
theorem dX12_begin1_58 : decode cX12_begin1 58 = .ok (.ifCond .eq 21, 3) := dk_153 (by decide +kernel)
theorem dX12_begin1_61 : decode cX12_begin1 61 = .ok (.aload_n 0, 1) := dk_42 (by decide +kernel)
theorem dX12_begin1_62 : decode cX12_begin1 62 = .ok (.bipush 10, 2) := dk_16 (by decide +kernel)
theorem dX12_begin1_64 : decode cX12_begin1 64 = .ok (.invokevirtual 530, 3) := dk_182 (by decide +kernel)
theorem dX12_begin1_67 : decode cX12_begin1 67 = .ok (.ifCond .ne 19, 3) := dk_154 (by decide +kernel)
theorem dX12_begin1_70 : decode cX12_begin1 70 = .ok (.aload_n 0, 1) := dk_42 (by decide +kernel)
theorem dX12_begin1_71 : decode cX12_begin1 71 = .ok (.bipush 123, 2) := dk_16 (by decide +kernel)
theorem dX12_begin1_73 : decode cX12_begin1 73 = .ok (.invokevirtual 521, 3) := dk_182 (by decide +kernel)
theorem dX12_begin1_76 : decode cX12_begin1 76 = .ok (.ifCond .ne 10, 3) := dk_154 (by decide +kernel)
theorem dX12_begin1_79 : decode cX12_begin1 79 = .ok (.aload_n 0, 1) := dk_42 (by decide +kernel)
theorem dX12_begin1_80 : decode cX12_begin1 80 = .ok (.invokevirtual 573, 3) := dk_182 (by decide +kernel)
theorem dX12_begin1_83 : decode cX12_begin1 83 = .ok (.ifCond .eq 12, 3) := dk_153 (by decide +kernel)
theorem dX12_begin1_86 : decode cX12_begin1 86 = .ok (.aload_n 0, 1) := dk_42 (by decide +kernel)
theorem dX12_begin1_87 : decode cX12_begin1 87 = .ok (.iconst 4, 1) := dk_7 (by decide +kernel)
theorem dX12_begin1_88 : decode cX12_begin1 88 = .ok (.aload_n 0, 1) := dk_42 (by decide +kernel)
theorem dX12_begin1_89 : decode cX12_begin1 89 = .ok (.getfield 488, 3) := dk_180 (by decide +kernel)
theorem dX12_begin1_92 : decode cX12_begin1 92 = .ok (.invokevirtual 518, 3) := dk_182 (by decide +kernel)
theorem dX12_begin1_95 : decode cX12_begin1 95 = .ok (.return_, 1) := dk_177 (by decide +kernel)
theorem dX12_begin1_96 : decode cX12_begin1 96 = .ok (.aload_n 0, 1) := dk_42 (by decide +kernel)
theorem dX12_begin1_97 : decode cX12_begin1 97 = .ok (.dup, 1) := dk_89 (by decide +kernel)
theorem dX12_begin1_98 : decode cX12_begin1 98 = .ok (.getfield 570, 3) := dk_180 (by decide +kernel)
theorem dX12_begin1_101 : decode cX12_begin1 101 = .ok (.iload_n 2, 1) := dk_28 (by decide +kernel)
theorem dX12_begin1_102 : decode cX12_begin1 102 = .ok (.ifCond .eq 7, 3) := dk_153 (by decide +kernel)
theorem dX12_begin1_105 : decode cX12_begin1 105 = .ok (.iconst 1, 1) := dk_4 (by decide +kernel)
theorem dX12_begin1_106 : decode cX12_begin1 106 = .ok (.goto 4, 3) := dk_167 (by decide +kernel)
theorem dX12_begin1_109 : decode cX12_begin1 109 = .ok (.iconst 0, 1) := dk_3 (by decide +kernel)
theorem dX12_begin1_110 : decode cX12_begin1 110 = .ok (.iadd, 1) := dk_96 (by decide +kernel)
theorem dX12_begin1_111 : decode cX12_begin1 111 = .ok (.putfield 570, 3) := dk_181 (by decide +kernel)
theorem dX12_begin1_114 : decode cX12_begin1 114 = .ok (.aload_n 0, 1) := dk_42 (by decide +kernel)
theorem dX12_begin1_115 : decode cX12_begin1 115 = .ok (.getfield 140, 3) := dk_180 (by decide +kernel)
theorem dX12_begin1_118 : decode cX12_begin1 118 = .ok (.aload_n 0, 1) := dk_42 (by decide +kernel)
theorem dX12_begin1_119 : decode cX12_begin1 119 = .ok (.getfield 577, 3) := dk_180 (by decide +kernel)
theorem dX12_begin1_122 : decode cX12_begin1 122 = .ok (.iload_n 1, 1) := dk_27 (by decide +kernel)
theorem dX12_begin1_123 : decode cX12_begin1 123 = .ok (.iastore, 1) := dk_79 (by decide +kernel)
theorem dX12_begin1_124 : decode cX12_begin1 124 = .ok (.aload_n 0, 1) := dk_42 (by decide +kernel)
theorem dX12_begin1_125 : decode cX12_begin1 125 = .ok (.getfield 143, 3) := dk_180 (by decide +kernel)
theorem dX12_begin1_128 : decode cX12_begin1 128 = .ok (.aload_n 0, 1) := dk_42 (by decide +kernel)
theorem dX12_begin1_129 : decode cX12_begin1 129 = .ok (.getfield 577, 3) := dk_180 (by decide +kernel)
theorem dX12_begin1_132 : decode cX12_begin1 132 = .ok (.iconst 0, 1) := dk_3 (by decide +kernel)
theorem dX12_begin1_133 : decode cX12_begin1 133 = .ok (.iastore, 1) := dk_79 (by decide +kernel)
theorem dX12_begin1_134 : decode cX12_begin1 134 = .ok (.aload_n 0, 1) := dk_42 (by decide +kernel)
theorem dX12_begin1_135 : decode cX12_begin1 135 = .ok (.getfield 146, 3) := dk_180 (by decide +kernel)
theorem dX12_begin1_138 : decode cX12_begin1 138 = .ok (.aload_n 0, 1) := dk_42 (by decide +kernel)
theorem dX12_begin1_139 : decode cX12_begin1 139 = .ok (.getfield 577, 3) := dk_180 (by decide +kernel)
theorem dX12_begin1_142 : decode cX12_begin1 142 = .ok (.iconst (-1), 1) := dk_2 (by decide +kernel)
theorem dX12_begin1_143 : decode cX12_begin1 143 = .ok (.iastore, 1) := dk_79 (by decide +kernel)
theorem dX12_begin1_144 : decode cX12_begin1 144 = .ok (.aload_n 0, 1) := dk_42 (by decide +kernel)
theorem dX12_begin1_145 : decode cX12_begin1 145 = .ok (.getfield 149, 3) := dk_180 (by decide +kernel)
theorem dX12_begin1_148 : decode cX12_begin1 148 = .ok (.aload_n 0, 1) := dk_42 (by decide +kernel)
theorem dX12_begin1_149 : decode cX12_begin1 149 = .ok (.getfield 577, 3) := dk_180 (by decide +kernel)
theorem dX12_begin1_152 : decode cX12_begin1 152 = .ok (.iconst (-1), 1) := dk_2 (by decide +kernel)
theorem dX12_begin1_153 : decode cX12_begin1 153 = .ok (.iastore, 1) := dk_79 (by decide +kernel)
theorem dX12_begin1_154 : decode cX12_begin1 154 = .ok (.aload_n 0, 1) := dk_42 (by decide +kernel)
theorem dX12_begin1_155 : decode cX12_begin1 155 = .ok (.getfield 164, 3) := dk_180 (by decide +kernel)
theorem dX12_begin1_158 : decode cX12_begin1 158 = .ok (.aload_n 0, 1) := dk_42 (by decide +kernel)
theorem dX12_begin1_159 : decode cX12_begin1 159 = .ok (.getfield 577, 3) := dk_180 (by decide +kernel)
theorem dX12_begin1_162 : decode cX12_begin1 162 = .ok (.aload_n 0, 1) := dk_42 (by decide +kernel)
theorem dX12_begin1_163 : decode cX12_begin1 163 = .ok (.getfield 488, 3) := dk_180 (by decide +kernel)
theorem dX12_begin1_166 : decode cX12_begin1 166 = .ok (.iastore, 1) := dk_79 (by decide +kernel)
theorem dX12_begin1_167 : decode cX12_begin1 167 = .ok (.aload_n 0, 1) := dk_42 (by decide +kernel)
theorem dX12_begin1_168 : decode cX12_begin1 168 = .ok (.getfield 167, 3) := dk_180 (by decide +kernel)
theorem dX12_begin1_171 : decode cX12_begin1 171 = .ok (.aload_n 0, 1) := dk_42 (by decide +kernel)
theorem dX12_begin1_172 : decode cX12_begin1 172 = .ok (.getfield 577, 3) := dk_180 (by decide +kernel)
theorem dX12_begin1_175 : decode cX12_begin1 175 = .ok (.iload_n 2, 1) := dk_28 (by decide +kernel)
theorem dX12_begin1_176 : decode cX12_begin1 176 = .ok (.ifCond .eq 7, 3) := dk_153 (by decide +kernel)
theorem dX12_begin1_179 : decode cX12_begin1 179 = .ok (.iconst 1, 1) := dk_4 (by decide +kernel)
theorem dX12_begin1_180 : decode cX12_begin1 180 = .ok (.goto 4, 3) := dk_167 (by decide +kernel)
theorem dX12_begin1_183 : decode cX12_begin1 183 = .ok (.iconst 0, 1) := dk_3 (by decide +kernel)
theorem dX12_begin1_184 : decode cX12_begin1 184 = .ok (.iastore, 1) := dk_79 (by decide +kernel)
theorem dX12_begin1_185 : decode cX12_begin1 185 = .ok (.aload_n 0, 1) := dk_42 (by decide +kernel)
theorem dX12_begin1_186 : decode cX12_begin1 186 = .ok (.dup, 1) := dk_89 (by decide +kernel)
theorem dX12_begin1_187 : decode cX12_begin1 187 = .ok (.getfield 577, 3) := dk_180 (by decide +kernel)
theorem dX12_begin1_190 : decode cX12_begin1 190 = .ok (.iconst 1, 1) := dk_4 (by decide +kernel)
theorem dX12_begin1_191 : decode cX12_begin1 191 = .ok (.iadd, 1) := dk_96 (by decide +kernel)
theorem dX12_begin1_192 : decode cX12_begin1 192 = .ok (.putfield 577, 3) := dk_181 (by decide +kernel)
theorem dX12_begin1_195 : decode cX12_begin1 195 = .ok (.return_, 1) := dk_177 (by decide +kernel)
def wsRX12_begin1 : List Cond := .code yX12_begin1 cX12_begin1 4 none :: ([.fieldLink RX12 515 "OptimaWorksModel" "stop" "I", .fieldLink RX12 570 "OptimaWorksModel" "within" "I", .fieldLink RX12 140 "OptimaWorksModel" "what" "[I", .fieldLink RX12 577 "OptimaWorksModel" "deep" "I", .fieldLink RX12 143 "OptimaWorksModel" "step" "[I", .fieldLink RX12 146 "OptimaWorksModel" "got1" "[I", .fieldLink RX12 149 "OptimaWorksModel" "got2" "[I", .fieldLink RX12 164 "OptimaWorksModel" "begins" "[I", .fieldLink RX12 488 "OptimaWorksModel" "from" "I", .fieldLink RX12 167 "OptimaWorksModel" "extra" "[I"] ++ wsX120 ++ (wsV RX12 530 RX12 yX12_isKey wsRX12_isKey) ++ (wsV RX12 573 RX12 yX12_canBegin wsRX12_canBegin) ++ (wsV RX12 518 RX12 yX12_faultAt wsRX12_faultAt) ++ (wsV RX12 521 RX12 yX12_isSign wsRX12_isSign))
theorem iwsRX12_begin1_in12 : ∀ w ∈ wsX120, w ∈ wsRX12_begin1 := fun _ h => List.mem_cons_of_mem _ (List.mem_append_left _ (List.mem_append_left _ (List.mem_append_left _ (List.mem_append_left _ (List.mem_append_right _ h)))))
theorem gwsRX12_begin1_0 : GoodIn wsRX12_begin1 (wsV RX12 530 RX12 yX12_isKey wsRX12_isKey) := goodIn_sub (fun _ h => List.mem_cons_of_mem _ (List.mem_append_left _ (List.mem_append_left _ (List.mem_append_left _ (List.mem_append_right _ h))))) (gdV (by decide +kernel) gdwsRX12_isKey)
theorem gwsRX12_begin1_1 : GoodIn wsRX12_begin1 (wsV RX12 573 RX12 yX12_canBegin wsRX12_canBegin) := goodIn_sub (fun _ h => List.mem_cons_of_mem _ (List.mem_append_left _ (List.mem_append_left _ (List.mem_append_right _ h)))) (gdV (by decide +kernel) gdwsRX12_canBegin)
theorem gwsRX12_begin1_2 : GoodIn wsRX12_begin1 (wsV RX12 518 RX12 yX12_faultAt wsRX12_faultAt) := goodIn_sub (fun _ h => List.mem_cons_of_mem _ (List.mem_append_left _ (List.mem_append_right _ h))) (gdV (by decide +kernel) gdwsRX12_faultAt)
theorem gwsRX12_begin1_3 : GoodIn wsRX12_begin1 (wsV RX12 521 RX12 yX12_isSign wsRX12_isSign) := goodIn_sub (fun _ h => List.mem_cons_of_mem _ (List.mem_append_right _ h)) (gdV (by decide +kernel) gdwsRX12_isSign)
theorem gdwsRX12_begin1 : wsRX12_begin1.all goodWord = true := gdC rfl (gdA (gdA (gdA (gdA (gdA (by decide +kernel : ([.fieldLink RX12 515 "OptimaWorksModel" "stop" "I", .fieldLink RX12 570 "OptimaWorksModel" "within" "I", .fieldLink RX12 140 "OptimaWorksModel" "what" "[I", .fieldLink RX12 577 "OptimaWorksModel" "deep" "I", .fieldLink RX12 143 "OptimaWorksModel" "step" "[I", .fieldLink RX12 146 "OptimaWorksModel" "got1" "[I", .fieldLink RX12 149 "OptimaWorksModel" "got2" "[I", .fieldLink RX12 164 "OptimaWorksModel" "begins" "[I", .fieldLink RX12 488 "OptimaWorksModel" "from" "I", .fieldLink RX12 167 "OptimaWorksModel" "extra" "[I"] : List Cond).all goodWord = true) gdwsX120) (gdV (by decide +kernel) gdwsRX12_isKey)) (gdV (by decide +kernel) gdwsRX12_canBegin)) (gdV (by decide +kernel) gdwsRX12_faultAt)) (gdV (by decide +kernel) gdwsRX12_isSign))
theorem hm_r_X12_begin1_0 : (.fieldLink RX12 570 "OptimaWorksModel" "within" "I" : Cond) ∈ wsRX12_begin1 := by decide +kernel
theorem hm_r_X12_begin1_1 : (.fieldLink RX12 140 "OptimaWorksModel" "what" "[I" : Cond) ∈ wsRX12_begin1 := by decide +kernel
theorem hm_r_X12_begin1_2 : (.fieldLink RX12 577 "OptimaWorksModel" "deep" "I" : Cond) ∈ wsRX12_begin1 := by decide +kernel
theorem hm_r_X12_begin1_3 : (.fieldLink RX12 143 "OptimaWorksModel" "step" "[I" : Cond) ∈ wsRX12_begin1 := by decide +kernel
theorem hm_r_X12_begin1_4 : (.fieldLink RX12 146 "OptimaWorksModel" "got1" "[I" : Cond) ∈ wsRX12_begin1 := by decide +kernel
theorem hm_r_X12_begin1_5 : (.fieldLink RX12 149 "OptimaWorksModel" "got2" "[I" : Cond) ∈ wsRX12_begin1 := by decide +kernel
theorem hm_r_X12_begin1_6 : (.fieldLink RX12 164 "OptimaWorksModel" "begins" "[I" : Cond) ∈ wsRX12_begin1 := by decide +kernel
theorem hm_r_X12_begin1_7 : (.fieldLink RX12 488 "OptimaWorksModel" "from" "I" : Cond) ∈ wsRX12_begin1 := by decide +kernel
theorem hm_r_X12_begin1_8 : (.fieldLink RX12 167 "OptimaWorksModel" "extra" "[I" : Cond) ∈ wsRX12_begin1 := by decide +kernel
set_option maxHeartbeats 4000000 in
set_option maxRecDepth 100000 in
/-- begin1(r) -/
theorem r_X12_begin1 (l : Launch) (dC : Nat → ClassId) (dI : Nat → Nat → Nat) (a : Nat → Nat) (k : Nat → ClassId) (h0 : Nat) (vi : Nat → Int32) (vj : Nat → Int64) (vF : Nat → Nat → Int32) (vG : Nat → Nat → Int64) (rv : Int32) (tp : Nat) (an : Nat) (fn : Nat) (nm : Nat) (se : Nat) (pa : Nat) (va : Nat) (bd : Nat) (dB : Nat) (wi : Nat) (hTp : vi 16 = nI tp) (htp : tp ≤ 4000) (ha0 : vi 17 = nI an) (hfr : vi 19 = nI fn) (hLx : LxO tp fn an (vi 18) (vi 20)) (hst0 : 0 ≤ (vi 21).toInt) (hnm : vi 25 = nI nm) (hnm40 : nm ≤ 40) (hno : NmO (vF 11) (vF 12) nm) (hNk : NkO (vF 10) (vF 13) nm se pa va) (hbd : vi 30 = nI bd) (hbd60 : bd ≤ 60) (hbo : NmO (vF 14) (vF 15) 60) (hdB : vi 74 = nI dB) (hdB9 : dB < 120) (hwi : vi 75 = nI wi) (hwi9 : wi ≤ 25) (sz : Nat) : Met l yX12_begin1 wsRX12_begin1 ({ frames := 3, cells := 0, slots := 0, locals := 68 }) (va_Pc [.ref h0, .int rv] (fun U => U.heap.size = sz ∧ va_P (dC, dI) vwCl (WR a k h0 vi vj vF vG) U.heap ∧ va_K (dC, dI) vwCl (tX12 k) U ∧ va_D (fun _ => True) (WR a k h0 vi vj vF vG))) (va_Qv (fun (u : (Int32) × (Int32) × (Nat → Int32) × (Nat → Int32) × (Nat → Int32) × (Nat → Int32) × (Nat → Int32) × (Nat → Int32) × (Nat) × (Nat)) => (0 ≤ ((u.1)).toInt) ∧ (0 < ((u.1)).toInt ∨ ((u.1) = vi 21 ∧ BgO rv (vi 18) (vi 20) (u.2.2.1) (u.2.2.2.1) (u.2.2.2.2.1) (u.2.2.2.2.2.1) (u.2.2.2.2.2.2.2.1) dB wi (u.2.2.2.2.2.2.2.2.1) (u.2.2.2.2.2.2.2.2.2))) ∧ (FrmO dB (vF 39) (vF 40) (vF 41) (vF 42) (vF 48) (u.2.2.1) (u.2.2.2.1) (u.2.2.2.2.1) (u.2.2.2.2.2.1) (u.2.2.2.2.2.2.2.1)) ∧ ((u.2.2.2.2.2.2.2.2.1) ≤ dB + 1)) (fun (u : (Int32) × (Int32) × (Nat → Int32) × (Nat → Int32) × (Nat → Int32) × (Nat → Int32) × (Nat → Int32) × (Nat → Int32) × (Nat) × (Nat)) t => va_P (dC, dI) vwCl (WR a k h0 (fT (fT (fT (fT vi 75 (nI (u.2.2.2.2.2.2.2.2.2))) 74 (nI (u.2.2.2.2.2.2.2.2.1))) 21 (u.1)) 22 (u.2.1)) vj (fT (fT (fT (fT (fT (fT vF 39 (u.2.2.1)) 40 (u.2.2.2.1)) 41 (u.2.2.2.2.1)) 42 (u.2.2.2.2.2.1)) 47 (u.2.2.2.2.2.2.1)) 48 (u.2.2.2.2.2.2.2.1)) vG) t.heap ∧ va_D (va_A (WR a k h0 vi vj vF vG) sz) (WR a k h0 (fT (fT (fT (fT vi 75 (nI (u.2.2.2.2.2.2.2.2.2))) 74 (nI (u.2.2.2.2.2.2.2.2.1))) 21 (u.1)) 22 (u.2.1)) vj (fT (fT (fT (fT (fT (fT vF 39 (u.2.2.1)) 40 (u.2.2.2.1)) 41 (u.2.2.2.2.1)) 42 (u.2.2.2.2.2.1)) 47 (u.2.2.2.2.2.2.1)) 48 (u.2.2.2.2.2.2.2.1)) vG)) (va_A (WR a k h0 vi vj vF vG) sz)) 0 0 (va_A (WR a k h0 vi vj vF vG) sz) := by
  refine Met.ofW (cc := cX12_begin1) (maxL := 4) (ret := none) (by decide) rfl ?_
  intro p e s m args below meth c s₁ B hml hv
  obtain ⟨rfl, hsz, hP, hK, hD0⟩ := hv
  have hx := B.exec
  have hb := B.bytes
  have hr := B.returns
  have hts := atoms_spec (ws := wsRX12_begin1) B.pre
  have hown : s.vm.findClass RX12 = some m.cls := findClass_of_methodNamed B.named
  have hlocks := B.notSynchronized
  subst hsz
  have hD := hD0.self (sz := s.heap.size)
  generalize hAe : va_A (WR a k h0 vi vj vF vG) s.heap.size = A at hD ⊢
  have hA : ∀ q : Nat, s.heap.size ≤ q → A q := fun q h => by rw [← hAe]; exact Or.inr h
  have hS : va_S A s.heap s.heap [] := va_S.rf
  have hl := lv_entry ([.ref h0, .int rv]) (n := 4) (Nat.le_of_ble_eq_true rfl)
  rw [lg_entry_eq]
  generalize (lg_sl ([.ref h0, .int rv]) ++ List.replicate (4 - (lg_sl ([.ref h0, .int rv])).length) Slot.unset).toArray = ls at hl ⊢
  have hl : lv_has ls 4 [(0, .ref h0), (1, .int rv)] := hl
  have hfa := hLx.1
  have han := hLx.2.1
  have han4 : an ≤ 4000 := by omega
  refine lv_aload_n hx hb dX12_begin1_0 rfl (lv_at hl 0 rfl) ?_
  refine va_get (D := (dC, dI)) (ci := 12) (v := .int (vi 21)) (C := RX12) (T := TX12) (N := 163) (fs := fM (vS a vi vj)) hx hb hts iwsRX12_begin1_in12 hown hK hP 0 rfl rfl 21 (by decide) (hts (.fieldLink RX12 515 "OptimaWorksModel" "stop" "I") (by decide +kernel)) (fun _ h9 => h9) rfl dX12_begin1_1 ?_
  refine lv_if_le (tgt := 8) hx hb dX12_begin1_4 (by decide) (fun c_4 => ?_) (fun c_4 => ?_)
  · have t_4 : ((vi 21)).toInt ≤ 0 := toI_le c_4 rfl (by decide)
    refine lv_iload_n hx hb dX12_begin1_8 rfl (lv_at hl 1 rfl) ?_
    refine lv_iconst (v := 3) hx hb dX12_begin1_9 (by decide) ?_
    refine W.cut (pc := 27) (fun H locs ls stk => ∃ (zq : Int32), ((zq = 1 ∧ zq = 1) ∨ (zq = 0 ∧ rv = 3 ∧ ¬ (vi 18 = 2 ∧ vi 20 = 10))) ∧  stk = [.int zq] ∧ va_P (dC, dI) vwCl (WR a k h0 vi vj vF vG) H ∧ va_D A (WR a k h0 vi vj vF vG) ∧ va_S A s.heap H locs ∧ lv_has ls 4 [(0, .ref h0), (1, .int rv)]) (fun join1 => ?_) ?_
    · refine lv_icmp_ne (tgt := 22) hx hb dX12_begin1_10 (by decide) (fun c_10 => ?_) (fun c_10 => ?_)
      · have t_10 : (rv).toInt ≠ 3 := toI_ne c_10 rfl (by decide)
        refine lv_iconst (v := 1) hx hb dX12_begin1_22 (by decide) ?_
        refine lv_goto (tgt := 27) hx hb dX12_begin1_23 (by decide) ?_
        have hl : lv_has _ _ ([(0, .ref h0), (1, .int rv)]) := lv_sub hl [0, 1] rfl
        exact join1 _ _ _ _ ⟨1, Or.inl ⟨rfl, rfl⟩, rfl, hP, hD, hS, hl⟩
      · have t_10 : (rv).toInt = 3 := toI_nne c_10 rfl (by decide)
        refine lv_aload_n hx hb dX12_begin1_13 rfl (lv_at hl 0 rfl) ?_
        refine lv_bipush (v := 10) hx hb dX12_begin1_14 (by decide) ?_
        have hFc := allFree hD hS hA
        refine va_calli (va_runV (As := [.int 10]) (rest := []) ⟨hx, hb, hml, hown, hts⟩ (r_X12_isKey l dC dI a k h0 vi vj vF vG 10 s.heap.size) (cwV 1 hts gwsRX12_begin1_0 rfl rfl rfl hd_yX12_isKey_RX12 (by decide +kernel)) (fz_pre (va_recv hK hP (ci := 12) (q0 := 0) rfl rfl) hP hK hD) rfl rfl hl.1 rfl (lv_room (Nat.le_of_ble_eq_true rfl)) dX12_begin1_16 (by decide +kernel)) hS (fun q _ h => hFc q h) hFc (fun r16 u t9_ H locs ht hvm hw9 hB9 hz1 hk1 hS => ?_)
        have hP : va_P (dC, dI) vwCl (WR a k h0 vi vj vF vG) H := fz_P ht hB9.1
        have hD := fz_sd hP (hB9.2.weaken (fun _ q _ h => hFc q.1 h)) rfl
        rcases hw9 with ⟨rfl, f16_0, f16_1⟩ | ⟨rfl, f16_0⟩
        · have f16_0 : (vi 18).toInt = 2 := f16_0
          have f16_1 : (vi 20) = 10 := f16_1
          refine lv_if_eq (tgt := 26) hx hb dX12_begin1_19 (by decide) (fun c9 => absurd c9 (by decide)) (fun _ => ?_)
          refine lv_iconst (v := 1) hx hb dX12_begin1_22 (by decide) ?_
          refine lv_goto (tgt := 27) hx hb dX12_begin1_23 (by decide) ?_
          have hl : lv_has _ _ ([(0, .ref h0), (1, .int rv)]) := lv_sub hl [0, 1] rfl
          exact join1 _ _ _ _ ⟨1, Or.inl ⟨rfl, rfl⟩, rfl, hP, hD, hS, hl⟩
        · have f16_0 : ¬ ((vi 18).toInt = 2 ∧ (vi 20) = 10) := f16_0
          refine lv_if_eq (tgt := 26) hx hb dX12_begin1_19 (by decide) (fun _ => ?_) (fun c9 => absurd (by decide) c9)
          refine lv_iconst (v := 0) hx hb dX12_begin1_26 (by decide) ?_
          have hl : lv_has _ _ ([(0, .ref h0), (1, .int rv)]) := lv_sub hl [0, 1] rfl
          exact join1 _ _ _ _ ⟨0, Or.inr ⟨rfl, c_10, fun h9 => f16_0 ⟨by rw [h9.1]; decide, h9.2⟩⟩, rfl, hP, hD, hS, hl⟩
    · rintro H locs ls stk ⟨zq, hzq, rfl, hP, hD, hS, hl⟩
      refine lv_istore_n hx hb dX12_begin1_27 rfl hl (by decide) rfl (fun ls (hl : lv_has ls _ ([(2, .int zq), (0, .ref h0), (1, .int rv)])) => ?_)
      refine lv_iload_n hx hb dX12_begin1_28 rfl (lv_at hl 0 rfl) ?_
      refine lv_if_eq (tgt := 96) hx hb dX12_begin1_29 (by decide) (fun c_29 => ?_) (fun c_29 => ?_)
      · have t_29 : (zq).toInt = 0 := toI_eq c_29 rfl (by decide)
        refine lv_aload_n hx hb dX12_begin1_96 rfl (lv_at hl 1 rfl) ?_
        refine lv_dup hx hb dX12_begin1_97 rfl ?_
        refine va_get (D := (dC, dI)) (ci := 12) (v := .int (vi 75)) (C := RX12) (T := TX12) (N := 163) (fs := fM (vS a vi vj)) hx hb hts iwsRX12_begin1_in12 hown hK hP 0 rfl rfl 75 (by decide) (hts _ hm_r_X12_begin1_0) (fun _ h9 => h9) rfl dX12_begin1_98 ?_
        refine lv_topi (fun y1 hy1 => ?_)
        obtain rfl : (nI wi) = y1 := (hy1.trans (hwi)).symm
        refine lv_iload_n hx hb dX12_begin1_101 rfl (lv_at hl 0 rfl) ?_
        refine lv_if_eq (tgt := 109) hx hb dX12_begin1_102 (by decide) (fun c_102 => ?_) (fun c9 => False.elim (by have t9 : ¬ (zq).toInt = 0 := toI_neq c9 rfl (by decide); omega))
        have t_102 : (zq).toInt = 0 := toI_eq c_102 rfl (by decide)
        refine lv_iconst (v := 0) hx hb dX12_begin1_109 (by decide) ?_
        refine lv_iadd hx hb dX12_begin1_110 ?_
        refine lv_topi (fun y2 hy2 => ?_)
        obtain rfl : (nI (wi + 0)) = y2 := (hy2.trans (nI_add wi 0)).symm
        refine va_put (D := (dC, dI)) (ci := 12) (v := .int (nI (wi + 0))) (ty := .int) (C := RX12) (T := TX12) (N := 163) (fs := fM (vS a vi vj)) hx hb hts iwsRX12_begin1_in12 tyX12 tyX12_ok nmX12 hown hK hP hD hS 0 rfl rfl 75 (by decide) (hts _ hm_r_X12_begin1_0) (fun _ h9 => h9) rfl (by decide +kernel) rfl rfl (Nat.le_of_ble_eq_true rfl) dX12_begin1_111 (fun H locs hP hD hS => ?_)
        have hP : va_P (dC, dI) vwCl (WR a k h0 (fT vi 75 (nI (wi + 0))) vj vF vG) H := fz_w (WR_i 75 _ rfl) hP
        have hD : va_D A (WR a k h0 (fT vi 75 (nI (wi + 0))) vj vF vG) := fz_wD (WR_i 75 _ rfl) hD
        refine lv_aload_n hx hb dX12_begin1_114 rfl (lv_at hl 1 rfl) ?_
        refine va_get (D := (dC, dI)) (ci := 12) (v := .ref (a 39)) (C := RX12) (T := TX12) (N := 163) (fs := fM (vS a (fT vi 75 (nI (wi + 0))) vj)) hx hb hts iwsRX12_begin1_in12 hown hK hP 0 rfl rfl 64 (by decide) (hts _ hm_r_X12_begin1_1) (fun _ h9 => h9) rfl dX12_begin1_115 ?_
        refine lv_aload_n hx hb dX12_begin1_118 rfl (lv_at hl 1 rfl) ?_
        refine va_get (D := (dC, dI)) (ci := 12) (v := .int (vi 74)) (C := RX12) (T := TX12) (N := 163) (fs := fM (vS a (fT vi 75 (nI (wi + 0))) vj)) hx hb hts iwsRX12_begin1_in12 hown hK hP 0 rfl rfl 74 (by decide) (hts _ hm_r_X12_begin1_2) (fun _ h9 => h9) rfl dX12_begin1_119 ?_
        refine lv_topi (fun y3 hy3 => ?_)
        obtain rfl : (nI dB) = y3 := (hy3.trans (hdB)).symm
        refine lv_iload_n hx hb dX12_begin1_122 rfl (lv_at hl 2 rfl) ?_
        refine va_iast (cA := k 39) (n := 120) (f := (vF 39)) hx hb hK hP hD hS 40 39 (WR_get 39 (by decide)) (TR_get 39 (by decide)) (vp_in_nI (show dB < 120 by omega) (by omega)) dX12_begin1_123 (fun H locs hP hD hS => ?_)
        have hP : va_P (dC, dI) vwCl (WR a k h0 (fT vi 75 (nI (wi + 0))) vj (fT vF 39 (upd (vF 39) ((nI dB)).toNatClampNeg rv)) vG) H := fz_w (WR_F 39 (by decide) _ rfl) hP
        have hD : va_D A (WR a k h0 (fT vi 75 (nI (wi + 0))) vj (fT vF 39 (upd (vF 39) ((nI dB)).toNatClampNeg rv)) vG) := fz_wD (WR_F 39 (by decide) _ rfl) hD
        refine lv_aload_n hx hb dX12_begin1_124 rfl (lv_at hl 1 rfl) ?_
        refine va_get (D := (dC, dI)) (ci := 12) (v := .ref (a 40)) (C := RX12) (T := TX12) (N := 163) (fs := fM (vS a (fT vi 75 (nI (wi + 0))) vj)) hx hb hts iwsRX12_begin1_in12 hown hK hP 0 rfl rfl 65 (by decide) (hts _ hm_r_X12_begin1_3) (fun _ h9 => h9) rfl dX12_begin1_125 ?_
        refine lv_aload_n hx hb dX12_begin1_128 rfl (lv_at hl 1 rfl) ?_
        refine va_get (D := (dC, dI)) (ci := 12) (v := .int (vi 74)) (C := RX12) (T := TX12) (N := 163) (fs := fM (vS a (fT vi 75 (nI (wi + 0))) vj)) hx hb hts iwsRX12_begin1_in12 hown hK hP 0 rfl rfl 74 (by decide) (hts _ hm_r_X12_begin1_2) (fun _ h9 => h9) rfl dX12_begin1_129 ?_
        refine lv_topi (fun y4 hy4 => ?_)
        obtain rfl : (nI dB) = y4 := (hy4.trans (hdB)).symm
        refine lv_iconst (v := 0) hx hb dX12_begin1_132 (by decide) ?_
        refine va_iast (cA := k 40) (n := 120) (f := (vF 40)) hx hb hK hP hD hS 41 40 (WR_get 40 (by decide)) (TR_get 40 (by decide)) (vp_in_nI (show dB < 120 by omega) (by omega)) dX12_begin1_133 (fun H locs hP hD hS => ?_)
        have hP : va_P (dC, dI) vwCl (WR a k h0 (fT vi 75 (nI (wi + 0))) vj (fT (fT vF 39 (upd (vF 39) ((nI dB)).toNatClampNeg rv)) 40 (upd (vF 40) ((nI dB)).toNatClampNeg 0)) vG) H := fz_w (WR_F 40 (by decide) _ rfl) hP
        have hD : va_D A (WR a k h0 (fT vi 75 (nI (wi + 0))) vj (fT (fT vF 39 (upd (vF 39) ((nI dB)).toNatClampNeg rv)) 40 (upd (vF 40) ((nI dB)).toNatClampNeg 0)) vG) := fz_wD (WR_F 40 (by decide) _ rfl) hD
        refine lv_aload_n hx hb dX12_begin1_134 rfl (lv_at hl 1 rfl) ?_
        refine va_get (D := (dC, dI)) (ci := 12) (v := .ref (a 41)) (C := RX12) (T := TX12) (N := 163) (fs := fM (vS a (fT vi 75 (nI (wi + 0))) vj)) hx hb hts iwsRX12_begin1_in12 hown hK hP 0 rfl rfl 66 (by decide) (hts _ hm_r_X12_begin1_4) (fun _ h9 => h9) rfl dX12_begin1_135 ?_
        refine lv_aload_n hx hb dX12_begin1_138 rfl (lv_at hl 1 rfl) ?_
        refine va_get (D := (dC, dI)) (ci := 12) (v := .int (vi 74)) (C := RX12) (T := TX12) (N := 163) (fs := fM (vS a (fT vi 75 (nI (wi + 0))) vj)) hx hb hts iwsRX12_begin1_in12 hown hK hP 0 rfl rfl 74 (by decide) (hts _ hm_r_X12_begin1_2) (fun _ h9 => h9) rfl dX12_begin1_139 ?_
        refine lv_topi (fun y5 hy5 => ?_)
        obtain rfl : (nI dB) = y5 := (hy5.trans (hdB)).symm
        refine lv_iconst (v := (-1)) hx hb dX12_begin1_142 (by decide) ?_
        refine va_iast (cA := k 41) (n := 120) (f := (vF 41)) hx hb hK hP hD hS 42 41 (WR_get 41 (by decide)) (TR_get 41 (by decide)) (vp_in_nI (show dB < 120 by omega) (by omega)) dX12_begin1_143 (fun H locs hP hD hS => ?_)
        have hP : va_P (dC, dI) vwCl (WR a k h0 (fT vi 75 (nI (wi + 0))) vj (fT (fT (fT vF 39 (upd (vF 39) ((nI dB)).toNatClampNeg rv)) 40 (upd (vF 40) ((nI dB)).toNatClampNeg 0)) 41 (upd (vF 41) ((nI dB)).toNatClampNeg (-1))) vG) H := fz_w (WR_F 41 (by decide) _ rfl) hP
        have hD : va_D A (WR a k h0 (fT vi 75 (nI (wi + 0))) vj (fT (fT (fT vF 39 (upd (vF 39) ((nI dB)).toNatClampNeg rv)) 40 (upd (vF 40) ((nI dB)).toNatClampNeg 0)) 41 (upd (vF 41) ((nI dB)).toNatClampNeg (-1))) vG) := fz_wD (WR_F 41 (by decide) _ rfl) hD
        refine lv_aload_n hx hb dX12_begin1_144 rfl (lv_at hl 1 rfl) ?_
        refine va_get (D := (dC, dI)) (ci := 12) (v := .ref (a 42)) (C := RX12) (T := TX12) (N := 163) (fs := fM (vS a (fT vi 75 (nI (wi + 0))) vj)) hx hb hts iwsRX12_begin1_in12 hown hK hP 0 rfl rfl 67 (by decide) (hts _ hm_r_X12_begin1_5) (fun _ h9 => h9) rfl dX12_begin1_145 ?_
        refine lv_aload_n hx hb dX12_begin1_148 rfl (lv_at hl 1 rfl) ?_
        refine va_get (D := (dC, dI)) (ci := 12) (v := .int (vi 74)) (C := RX12) (T := TX12) (N := 163) (fs := fM (vS a (fT vi 75 (nI (wi + 0))) vj)) hx hb hts iwsRX12_begin1_in12 hown hK hP 0 rfl rfl 74 (by decide) (hts _ hm_r_X12_begin1_2) (fun _ h9 => h9) rfl dX12_begin1_149 ?_
        refine lv_topi (fun y6 hy6 => ?_)
        obtain rfl : (nI dB) = y6 := (hy6.trans (hdB)).symm
        refine lv_iconst (v := (-1)) hx hb dX12_begin1_152 (by decide) ?_
        refine va_iast (cA := k 42) (n := 120) (f := (vF 42)) hx hb hK hP hD hS 43 42 (WR_get 42 (by decide)) (TR_get 42 (by decide)) (vp_in_nI (show dB < 120 by omega) (by omega)) dX12_begin1_153 (fun H locs hP hD hS => ?_)
        have hP : va_P (dC, dI) vwCl (WR a k h0 (fT vi 75 (nI (wi + 0))) vj (fT (fT (fT (fT vF 39 (upd (vF 39) ((nI dB)).toNatClampNeg rv)) 40 (upd (vF 40) ((nI dB)).toNatClampNeg 0)) 41 (upd (vF 41) ((nI dB)).toNatClampNeg (-1))) 42 (upd (vF 42) ((nI dB)).toNatClampNeg (-1))) vG) H := fz_w (WR_F 42 (by decide) _ rfl) hP
        have hD : va_D A (WR a k h0 (fT vi 75 (nI (wi + 0))) vj (fT (fT (fT (fT vF 39 (upd (vF 39) ((nI dB)).toNatClampNeg rv)) 40 (upd (vF 40) ((nI dB)).toNatClampNeg 0)) 41 (upd (vF 41) ((nI dB)).toNatClampNeg (-1))) 42 (upd (vF 42) ((nI dB)).toNatClampNeg (-1))) vG) := fz_wD (WR_F 42 (by decide) _ rfl) hD
        refine lv_aload_n hx hb dX12_begin1_154 rfl (lv_at hl 1 rfl) ?_
        refine va_get (D := (dC, dI)) (ci := 12) (v := .ref (a 47)) (C := RX12) (T := TX12) (N := 163) (fs := fM (vS a (fT vi 75 (nI (wi + 0))) vj)) hx hb hts iwsRX12_begin1_in12 hown hK hP 0 rfl rfl 72 (by decide) (hts _ hm_r_X12_begin1_6) (fun _ h9 => h9) rfl dX12_begin1_155 ?_
        refine lv_aload_n hx hb dX12_begin1_158 rfl (lv_at hl 1 rfl) ?_
        refine va_get (D := (dC, dI)) (ci := 12) (v := .int (vi 74)) (C := RX12) (T := TX12) (N := 163) (fs := fM (vS a (fT vi 75 (nI (wi + 0))) vj)) hx hb hts iwsRX12_begin1_in12 hown hK hP 0 rfl rfl 74 (by decide) (hts _ hm_r_X12_begin1_2) (fun _ h9 => h9) rfl dX12_begin1_159 ?_
        refine lv_topi (fun y7 hy7 => ?_)
        obtain rfl : (nI dB) = y7 := (hy7.trans (hdB)).symm
        refine lv_aload_n hx hb dX12_begin1_162 rfl (lv_at hl 1 rfl) ?_
        refine va_get (D := (dC, dI)) (ci := 12) (v := .int (vi 19)) (C := RX12) (T := TX12) (N := 163) (fs := fM (vS a (fT vi 75 (nI (wi + 0))) vj)) hx hb hts iwsRX12_begin1_in12 hown hK hP 0 rfl rfl 19 (by decide) (hts _ hm_r_X12_begin1_7) (fun _ h9 => h9) rfl dX12_begin1_163 ?_
        refine lv_topi (fun y8 hy8 => ?_)
        obtain rfl : (nI fn) = y8 := (hy8.trans (hfr)).symm
        refine va_iast (cA := k 47) (n := 120) (f := (vF 47)) hx hb hK hP hD hS 48 47 (WR_get 47 (by decide)) (TR_get 47 (by decide)) (vp_in_nI (show dB < 120 by omega) (by omega)) dX12_begin1_166 (fun H locs hP hD hS => ?_)
        have hP : va_P (dC, dI) vwCl (WR a k h0 (fT vi 75 (nI (wi + 0))) vj (fT (fT (fT (fT (fT vF 39 (upd (vF 39) ((nI dB)).toNatClampNeg rv)) 40 (upd (vF 40) ((nI dB)).toNatClampNeg 0)) 41 (upd (vF 41) ((nI dB)).toNatClampNeg (-1))) 42 (upd (vF 42) ((nI dB)).toNatClampNeg (-1))) 47 (upd (vF 47) ((nI dB)).toNatClampNeg (nI fn))) vG) H := fz_w (WR_F 47 (by decide) _ rfl) hP
        have hD : va_D A (WR a k h0 (fT vi 75 (nI (wi + 0))) vj (fT (fT (fT (fT (fT vF 39 (upd (vF 39) ((nI dB)).toNatClampNeg rv)) 40 (upd (vF 40) ((nI dB)).toNatClampNeg 0)) 41 (upd (vF 41) ((nI dB)).toNatClampNeg (-1))) 42 (upd (vF 42) ((nI dB)).toNatClampNeg (-1))) 47 (upd (vF 47) ((nI dB)).toNatClampNeg (nI fn))) vG) := fz_wD (WR_F 47 (by decide) _ rfl) hD
        refine lv_aload_n hx hb dX12_begin1_167 rfl (lv_at hl 1 rfl) ?_
        refine va_get (D := (dC, dI)) (ci := 12) (v := .ref (a 48)) (C := RX12) (T := TX12) (N := 163) (fs := fM (vS a (fT vi 75 (nI (wi + 0))) vj)) hx hb hts iwsRX12_begin1_in12 hown hK hP 0 rfl rfl 73 (by decide) (hts _ hm_r_X12_begin1_8) (fun _ h9 => h9) rfl dX12_begin1_168 ?_
        refine lv_aload_n hx hb dX12_begin1_171 rfl (lv_at hl 1 rfl) ?_
        refine va_get (D := (dC, dI)) (ci := 12) (v := .int (vi 74)) (C := RX12) (T := TX12) (N := 163) (fs := fM (vS a (fT vi 75 (nI (wi + 0))) vj)) hx hb hts iwsRX12_begin1_in12 hown hK hP 0 rfl rfl 74 (by decide) (hts _ hm_r_X12_begin1_2) (fun _ h9 => h9) rfl dX12_begin1_172 ?_
        refine lv_topi (fun y9 hy9 => ?_)
        obtain rfl : (nI dB) = y9 := (hy9.trans (hdB)).symm
        refine lv_iload_n hx hb dX12_begin1_175 rfl (lv_at hl 0 rfl) ?_
        refine lv_if_eq (tgt := 183) hx hb dX12_begin1_176 (by decide) (fun c_176 => ?_) (fun c9 => False.elim (by have t9 : ¬ (zq).toInt = 0 := toI_neq c9 rfl (by decide); omega))
        have t_176 : (zq).toInt = 0 := toI_eq c_176 rfl (by decide)
        refine lv_iconst (v := 0) hx hb dX12_begin1_183 (by decide) ?_
        refine va_iast (cA := k 48) (n := 120) (f := (vF 48)) hx hb hK hP hD hS 49 48 (WR_get 48 (by decide)) (TR_get 48 (by decide)) (vp_in_nI (show dB < 120 by omega) (by omega)) dX12_begin1_184 (fun H locs hP hD hS => ?_)
        have hP : va_P (dC, dI) vwCl (WR a k h0 (fT vi 75 (nI (wi + 0))) vj (fT (fT (fT (fT (fT (fT vF 39 (upd (vF 39) ((nI dB)).toNatClampNeg rv)) 40 (upd (vF 40) ((nI dB)).toNatClampNeg 0)) 41 (upd (vF 41) ((nI dB)).toNatClampNeg (-1))) 42 (upd (vF 42) ((nI dB)).toNatClampNeg (-1))) 47 (upd (vF 47) ((nI dB)).toNatClampNeg (nI fn))) 48 (upd (vF 48) ((nI dB)).toNatClampNeg 0)) vG) H := fz_w (WR_F 48 (by decide) _ rfl) hP
        have hD : va_D A (WR a k h0 (fT vi 75 (nI (wi + 0))) vj (fT (fT (fT (fT (fT (fT vF 39 (upd (vF 39) ((nI dB)).toNatClampNeg rv)) 40 (upd (vF 40) ((nI dB)).toNatClampNeg 0)) 41 (upd (vF 41) ((nI dB)).toNatClampNeg (-1))) 42 (upd (vF 42) ((nI dB)).toNatClampNeg (-1))) 47 (upd (vF 47) ((nI dB)).toNatClampNeg (nI fn))) 48 (upd (vF 48) ((nI dB)).toNatClampNeg 0)) vG) := fz_wD (WR_F 48 (by decide) _ rfl) hD
        refine lv_aload_n hx hb dX12_begin1_185 rfl (lv_at hl 1 rfl) ?_
        refine lv_dup hx hb dX12_begin1_186 rfl ?_
        refine va_get (D := (dC, dI)) (ci := 12) (v := .int (vi 74)) (C := RX12) (T := TX12) (N := 163) (fs := fM (vS a (fT vi 75 (nI (wi + 0))) vj)) hx hb hts iwsRX12_begin1_in12 hown hK hP 0 rfl rfl 74 (by decide) (hts _ hm_r_X12_begin1_2) (fun _ h9 => h9) rfl dX12_begin1_187 ?_
        refine lv_topi (fun y10 hy10 => ?_)
        obtain rfl : (nI dB) = y10 := (hy10.trans (hdB)).symm
        refine lv_iconst (v := 1) hx hb dX12_begin1_190 (by decide) ?_
        refine lv_iadd hx hb dX12_begin1_191 ?_
        refine lv_topi (fun y11 hy11 => ?_)
        obtain rfl : (nI (dB + 1)) = y11 := (hy11.trans (nI_add dB 1)).symm
        refine va_put (D := (dC, dI)) (ci := 12) (v := .int (nI (dB + 1))) (ty := .int) (C := RX12) (T := TX12) (N := 163) (fs := fM (vS a (fT vi 75 (nI (wi + 0))) vj)) hx hb hts iwsRX12_begin1_in12 tyX12 tyX12_ok nmX12 hown hK hP hD hS 0 rfl rfl 74 (by decide) (hts _ hm_r_X12_begin1_2) (fun _ h9 => h9) rfl (by decide +kernel) rfl rfl (Nat.le_of_ble_eq_true rfl) dX12_begin1_192 (fun H locs hP hD hS => ?_)
        have hP : va_P (dC, dI) vwCl (WR a k h0 (fT (fT vi 75 (nI (wi + 0))) 74 (nI (dB + 1))) vj (fT (fT (fT (fT (fT (fT vF 39 (upd (vF 39) ((nI dB)).toNatClampNeg rv)) 40 (upd (vF 40) ((nI dB)).toNatClampNeg 0)) 41 (upd (vF 41) ((nI dB)).toNatClampNeg (-1))) 42 (upd (vF 42) ((nI dB)).toNatClampNeg (-1))) 47 (upd (vF 47) ((nI dB)).toNatClampNeg (nI fn))) 48 (upd (vF 48) ((nI dB)).toNatClampNeg 0)) vG) H := fz_w (WR_i 74 _ rfl) hP
        have hD : va_D A (WR a k h0 (fT (fT vi 75 (nI (wi + 0))) 74 (nI (dB + 1))) vj (fT (fT (fT (fT (fT (fT vF 39 (upd (vF 39) ((nI dB)).toNatClampNeg rv)) 40 (upd (vF 40) ((nI dB)).toNatClampNeg 0)) 41 (upd (vF 41) ((nI dB)).toNatClampNeg (-1))) 42 (upd (vF 42) ((nI dB)).toNatClampNeg (-1))) 47 (upd (vF 47) ((nI dB)).toNatClampNeg (nI fn))) 48 (upd (vF 48) ((nI dB)).toNatClampNeg 0)) vG) := fz_wD (WR_i 74 _ rfl) hD
        refine W.widen (k := 0) (n := 0) (by decide +kernel) (by decide +kernel) ?_
        have e9 : fT (fT (fT (fT vi 75 (nI (wi + 0))) 74 (nI (dB + 1))) 21 (vi 21)) 22 (vi 22) = fT (fT vi 75 (nI (wi + 0))) 74 (nI (dB + 1)) := (fT_id _ _ ((fT_ne _ _ (Nat.ne_of_beq_eq_false rfl)).trans ((fT_ne _ _ (Nat.ne_of_beq_eq_false rfl)).trans (fT_ne _ _ (Nat.ne_of_beq_eq_false rfl))))).trans (fT_id _ _ ((fT_ne _ _ (Nat.ne_of_beq_eq_false rfl)).trans (fT_ne _ _ (Nat.ne_of_beq_eq_false rfl))))
        have hP := wr_Pi e9 hP
        have hD := wr_Di e9 hD
        clear e9
        exact W.vret hx hb hr (fun t9_ ht hW => ⟨⟨((vi 21), (vi 22), (upd (vF 39) ((nI dB)).toNatClampNeg rv), (upd (vF 40) ((nI dB)).toNatClampNeg 0), (upd (vF 41) ((nI dB)).toNatClampNeg (-1)), (upd (vF 42) ((nI dB)).toNatClampNeg (-1)), (upd (vF 47) ((nI dB)).toNatClampNeg (nI fn)), (upd (vF 48) ((nI dB)).toNatClampNeg 0), (dB + 1), (wi + 0)), rfl, by (try dsimp only); exact ⟨hst0, Or.inr ⟨rfl, 0, ⟨by omega, fun h9 => absurd (hzq.resolve_left (fun h => absurd (h.1.symm.trans c_29) (by decide))).2.1 h9, fun h8 h9 => absurd ⟨h8, h9⟩ (hzq.resolve_left (fun h => absurd (h.1.symm.trans c_29) (by decide))).2.2⟩, ⟨rfl, by omega, rfl⟩, by rw [upd_at (by omega), if_pos rfl], by rw [upd_at (by omega), if_pos rfl], by rw [upd_at (by omega), if_pos rfl], by rw [upd_at (by omega), if_pos rfl], by rw [upd_at (by omega), if_pos rfl]; decide⟩, fun q h9 => ⟨by rw [upd_at (by omega), if_neg h9], by rw [upd_at (by omega), if_neg h9], by rw [upd_at (by omega), if_neg h9], by rw [upd_at (by omega), if_neg h9], by rw [upd_at (by omega), if_neg h9]⟩, by omega⟩, by rw [ht]; exact hP, hD⟩, hS.F ht⟩) hS.2.2 dX12_begin1_195
      · have t_29 : ¬ (zq).toInt = 0 := toI_neq c_29 rfl (by decide)
        refine lv_aload_n hx hb dX12_begin1_32 rfl (lv_at hl 1 rfl) ?_
        refine va_get (D := (dC, dI)) (ci := 12) (v := .int (vi 75)) (C := RX12) (T := TX12) (N := 163) (fs := fM (vS a vi vj)) hx hb hts iwsRX12_begin1_in12 hown hK hP 0 rfl rfl 75 (by decide) (hts _ hm_r_X12_begin1_0) (fun _ h9 => h9) rfl dX12_begin1_33 ?_
        refine lv_topi (fun y12 hy12 => ?_)
        obtain rfl : (nI wi) = y12 := (hy12.trans (hwi)).symm
        refine lv_bipush (v := 25) hx hb dX12_begin1_36 (by decide) ?_
        refine lv_icmp_ne (tgt := 96) hx hb dX12_begin1_38 (by decide) (fun c_38 => ?_) (fun c_38 => ?_)
        · have t_38 : ((wi : Nat) : Int) ≠ 25 := toI_ne c_38 (nI_toInt (by omega)) (by decide)
          refine lv_aload_n hx hb dX12_begin1_96 rfl (lv_at hl 1 rfl) ?_
          refine lv_dup hx hb dX12_begin1_97 rfl ?_
          refine va_get (D := (dC, dI)) (ci := 12) (v := .int (vi 75)) (C := RX12) (T := TX12) (N := 163) (fs := fM (vS a vi vj)) hx hb hts iwsRX12_begin1_in12 hown hK hP 0 rfl rfl 75 (by decide) (hts _ hm_r_X12_begin1_0) (fun _ h9 => h9) rfl dX12_begin1_98 ?_
          refine lv_topi (fun y13 hy13 => ?_)
          obtain rfl : (nI wi) = y13 := (hy13.trans (hwi)).symm
          refine lv_iload_n hx hb dX12_begin1_101 rfl (lv_at hl 0 rfl) ?_
          refine lv_if_eq (tgt := 109) hx hb dX12_begin1_102 (by decide) (fun c9 => False.elim (by have t9 : (zq).toInt = 0 := toI_eq c9 rfl (by decide); omega)) (fun c_102 => ?_)
          have t_102 : ¬ (zq).toInt = 0 := toI_neq c_102 rfl (by decide)
          refine lv_iconst (v := 1) hx hb dX12_begin1_105 (by decide) ?_
          refine lv_goto (tgt := 110) hx hb dX12_begin1_106 (by decide) ?_
          refine lv_iadd hx hb dX12_begin1_110 ?_
          refine lv_topi (fun y14 hy14 => ?_)
          obtain rfl : (nI (wi + 1)) = y14 := (hy14.trans (nI_add wi 1)).symm
          refine va_put (D := (dC, dI)) (ci := 12) (v := .int (nI (wi + 1))) (ty := .int) (C := RX12) (T := TX12) (N := 163) (fs := fM (vS a vi vj)) hx hb hts iwsRX12_begin1_in12 tyX12 tyX12_ok nmX12 hown hK hP hD hS 0 rfl rfl 75 (by decide) (hts _ hm_r_X12_begin1_0) (fun _ h9 => h9) rfl (by decide +kernel) rfl rfl (Nat.le_of_ble_eq_true rfl) dX12_begin1_111 (fun H locs hP hD hS => ?_)
          have hP : va_P (dC, dI) vwCl (WR a k h0 (fT vi 75 (nI (wi + 1))) vj vF vG) H := fz_w (WR_i 75 _ rfl) hP
          have hD : va_D A (WR a k h0 (fT vi 75 (nI (wi + 1))) vj vF vG) := fz_wD (WR_i 75 _ rfl) hD
          refine lv_aload_n hx hb dX12_begin1_114 rfl (lv_at hl 1 rfl) ?_
          refine va_get (D := (dC, dI)) (ci := 12) (v := .ref (a 39)) (C := RX12) (T := TX12) (N := 163) (fs := fM (vS a (fT vi 75 (nI (wi + 1))) vj)) hx hb hts iwsRX12_begin1_in12 hown hK hP 0 rfl rfl 64 (by decide) (hts _ hm_r_X12_begin1_1) (fun _ h9 => h9) rfl dX12_begin1_115 ?_
          refine lv_aload_n hx hb dX12_begin1_118 rfl (lv_at hl 1 rfl) ?_
          refine va_get (D := (dC, dI)) (ci := 12) (v := .int (vi 74)) (C := RX12) (T := TX12) (N := 163) (fs := fM (vS a (fT vi 75 (nI (wi + 1))) vj)) hx hb hts iwsRX12_begin1_in12 hown hK hP 0 rfl rfl 74 (by decide) (hts _ hm_r_X12_begin1_2) (fun _ h9 => h9) rfl dX12_begin1_119 ?_
          refine lv_topi (fun y15 hy15 => ?_)
          obtain rfl : (nI dB) = y15 := (hy15.trans (hdB)).symm
          refine lv_iload_n hx hb dX12_begin1_122 rfl (lv_at hl 2 rfl) ?_
          refine va_iast (cA := k 39) (n := 120) (f := (vF 39)) hx hb hK hP hD hS 40 39 (WR_get 39 (by decide)) (TR_get 39 (by decide)) (vp_in_nI (show dB < 120 by omega) (by omega)) dX12_begin1_123 (fun H locs hP hD hS => ?_)
          have hP : va_P (dC, dI) vwCl (WR a k h0 (fT vi 75 (nI (wi + 1))) vj (fT vF 39 (upd (vF 39) ((nI dB)).toNatClampNeg rv)) vG) H := fz_w (WR_F 39 (by decide) _ rfl) hP
          have hD : va_D A (WR a k h0 (fT vi 75 (nI (wi + 1))) vj (fT vF 39 (upd (vF 39) ((nI dB)).toNatClampNeg rv)) vG) := fz_wD (WR_F 39 (by decide) _ rfl) hD
          refine lv_aload_n hx hb dX12_begin1_124 rfl (lv_at hl 1 rfl) ?_
          refine va_get (D := (dC, dI)) (ci := 12) (v := .ref (a 40)) (C := RX12) (T := TX12) (N := 163) (fs := fM (vS a (fT vi 75 (nI (wi + 1))) vj)) hx hb hts iwsRX12_begin1_in12 hown hK hP 0 rfl rfl 65 (by decide) (hts _ hm_r_X12_begin1_3) (fun _ h9 => h9) rfl dX12_begin1_125 ?_
          refine lv_aload_n hx hb dX12_begin1_128 rfl (lv_at hl 1 rfl) ?_
          refine va_get (D := (dC, dI)) (ci := 12) (v := .int (vi 74)) (C := RX12) (T := TX12) (N := 163) (fs := fM (vS a (fT vi 75 (nI (wi + 1))) vj)) hx hb hts iwsRX12_begin1_in12 hown hK hP 0 rfl rfl 74 (by decide) (hts _ hm_r_X12_begin1_2) (fun _ h9 => h9) rfl dX12_begin1_129 ?_
          refine lv_topi (fun y16 hy16 => ?_)
          obtain rfl : (nI dB) = y16 := (hy16.trans (hdB)).symm
          refine lv_iconst (v := 0) hx hb dX12_begin1_132 (by decide) ?_
          refine va_iast (cA := k 40) (n := 120) (f := (vF 40)) hx hb hK hP hD hS 41 40 (WR_get 40 (by decide)) (TR_get 40 (by decide)) (vp_in_nI (show dB < 120 by omega) (by omega)) dX12_begin1_133 (fun H locs hP hD hS => ?_)
          have hP : va_P (dC, dI) vwCl (WR a k h0 (fT vi 75 (nI (wi + 1))) vj (fT (fT vF 39 (upd (vF 39) ((nI dB)).toNatClampNeg rv)) 40 (upd (vF 40) ((nI dB)).toNatClampNeg 0)) vG) H := fz_w (WR_F 40 (by decide) _ rfl) hP
          have hD : va_D A (WR a k h0 (fT vi 75 (nI (wi + 1))) vj (fT (fT vF 39 (upd (vF 39) ((nI dB)).toNatClampNeg rv)) 40 (upd (vF 40) ((nI dB)).toNatClampNeg 0)) vG) := fz_wD (WR_F 40 (by decide) _ rfl) hD
          refine lv_aload_n hx hb dX12_begin1_134 rfl (lv_at hl 1 rfl) ?_
          refine va_get (D := (dC, dI)) (ci := 12) (v := .ref (a 41)) (C := RX12) (T := TX12) (N := 163) (fs := fM (vS a (fT vi 75 (nI (wi + 1))) vj)) hx hb hts iwsRX12_begin1_in12 hown hK hP 0 rfl rfl 66 (by decide) (hts _ hm_r_X12_begin1_4) (fun _ h9 => h9) rfl dX12_begin1_135 ?_
          refine lv_aload_n hx hb dX12_begin1_138 rfl (lv_at hl 1 rfl) ?_
          refine va_get (D := (dC, dI)) (ci := 12) (v := .int (vi 74)) (C := RX12) (T := TX12) (N := 163) (fs := fM (vS a (fT vi 75 (nI (wi + 1))) vj)) hx hb hts iwsRX12_begin1_in12 hown hK hP 0 rfl rfl 74 (by decide) (hts _ hm_r_X12_begin1_2) (fun _ h9 => h9) rfl dX12_begin1_139 ?_
          refine lv_topi (fun y17 hy17 => ?_)
          obtain rfl : (nI dB) = y17 := (hy17.trans (hdB)).symm
          refine lv_iconst (v := (-1)) hx hb dX12_begin1_142 (by decide) ?_
          refine va_iast (cA := k 41) (n := 120) (f := (vF 41)) hx hb hK hP hD hS 42 41 (WR_get 41 (by decide)) (TR_get 41 (by decide)) (vp_in_nI (show dB < 120 by omega) (by omega)) dX12_begin1_143 (fun H locs hP hD hS => ?_)
          have hP : va_P (dC, dI) vwCl (WR a k h0 (fT vi 75 (nI (wi + 1))) vj (fT (fT (fT vF 39 (upd (vF 39) ((nI dB)).toNatClampNeg rv)) 40 (upd (vF 40) ((nI dB)).toNatClampNeg 0)) 41 (upd (vF 41) ((nI dB)).toNatClampNeg (-1))) vG) H := fz_w (WR_F 41 (by decide) _ rfl) hP
          have hD : va_D A (WR a k h0 (fT vi 75 (nI (wi + 1))) vj (fT (fT (fT vF 39 (upd (vF 39) ((nI dB)).toNatClampNeg rv)) 40 (upd (vF 40) ((nI dB)).toNatClampNeg 0)) 41 (upd (vF 41) ((nI dB)).toNatClampNeg (-1))) vG) := fz_wD (WR_F 41 (by decide) _ rfl) hD
          refine lv_aload_n hx hb dX12_begin1_144 rfl (lv_at hl 1 rfl) ?_
          refine va_get (D := (dC, dI)) (ci := 12) (v := .ref (a 42)) (C := RX12) (T := TX12) (N := 163) (fs := fM (vS a (fT vi 75 (nI (wi + 1))) vj)) hx hb hts iwsRX12_begin1_in12 hown hK hP 0 rfl rfl 67 (by decide) (hts _ hm_r_X12_begin1_5) (fun _ h9 => h9) rfl dX12_begin1_145 ?_
          refine lv_aload_n hx hb dX12_begin1_148 rfl (lv_at hl 1 rfl) ?_
          refine va_get (D := (dC, dI)) (ci := 12) (v := .int (vi 74)) (C := RX12) (T := TX12) (N := 163) (fs := fM (vS a (fT vi 75 (nI (wi + 1))) vj)) hx hb hts iwsRX12_begin1_in12 hown hK hP 0 rfl rfl 74 (by decide) (hts _ hm_r_X12_begin1_2) (fun _ h9 => h9) rfl dX12_begin1_149 ?_
          refine lv_topi (fun y18 hy18 => ?_)
          obtain rfl : (nI dB) = y18 := (hy18.trans (hdB)).symm
          refine lv_iconst (v := (-1)) hx hb dX12_begin1_152 (by decide) ?_
          refine va_iast (cA := k 42) (n := 120) (f := (vF 42)) hx hb hK hP hD hS 43 42 (WR_get 42 (by decide)) (TR_get 42 (by decide)) (vp_in_nI (show dB < 120 by omega) (by omega)) dX12_begin1_153 (fun H locs hP hD hS => ?_)
          have hP : va_P (dC, dI) vwCl (WR a k h0 (fT vi 75 (nI (wi + 1))) vj (fT (fT (fT (fT vF 39 (upd (vF 39) ((nI dB)).toNatClampNeg rv)) 40 (upd (vF 40) ((nI dB)).toNatClampNeg 0)) 41 (upd (vF 41) ((nI dB)).toNatClampNeg (-1))) 42 (upd (vF 42) ((nI dB)).toNatClampNeg (-1))) vG) H := fz_w (WR_F 42 (by decide) _ rfl) hP
          have hD : va_D A (WR a k h0 (fT vi 75 (nI (wi + 1))) vj (fT (fT (fT (fT vF 39 (upd (vF 39) ((nI dB)).toNatClampNeg rv)) 40 (upd (vF 40) ((nI dB)).toNatClampNeg 0)) 41 (upd (vF 41) ((nI dB)).toNatClampNeg (-1))) 42 (upd (vF 42) ((nI dB)).toNatClampNeg (-1))) vG) := fz_wD (WR_F 42 (by decide) _ rfl) hD
          refine lv_aload_n hx hb dX12_begin1_154 rfl (lv_at hl 1 rfl) ?_
          refine va_get (D := (dC, dI)) (ci := 12) (v := .ref (a 47)) (C := RX12) (T := TX12) (N := 163) (fs := fM (vS a (fT vi 75 (nI (wi + 1))) vj)) hx hb hts iwsRX12_begin1_in12 hown hK hP 0 rfl rfl 72 (by decide) (hts _ hm_r_X12_begin1_6) (fun _ h9 => h9) rfl dX12_begin1_155 ?_
          refine lv_aload_n hx hb dX12_begin1_158 rfl (lv_at hl 1 rfl) ?_
          refine va_get (D := (dC, dI)) (ci := 12) (v := .int (vi 74)) (C := RX12) (T := TX12) (N := 163) (fs := fM (vS a (fT vi 75 (nI (wi + 1))) vj)) hx hb hts iwsRX12_begin1_in12 hown hK hP 0 rfl rfl 74 (by decide) (hts _ hm_r_X12_begin1_2) (fun _ h9 => h9) rfl dX12_begin1_159 ?_
          refine lv_topi (fun y19 hy19 => ?_)
          obtain rfl : (nI dB) = y19 := (hy19.trans (hdB)).symm
          refine lv_aload_n hx hb dX12_begin1_162 rfl (lv_at hl 1 rfl) ?_
          refine va_get (D := (dC, dI)) (ci := 12) (v := .int (vi 19)) (C := RX12) (T := TX12) (N := 163) (fs := fM (vS a (fT vi 75 (nI (wi + 1))) vj)) hx hb hts iwsRX12_begin1_in12 hown hK hP 0 rfl rfl 19 (by decide) (hts _ hm_r_X12_begin1_7) (fun _ h9 => h9) rfl dX12_begin1_163 ?_
          refine lv_topi (fun y20 hy20 => ?_)
          obtain rfl : (nI fn) = y20 := (hy20.trans (hfr)).symm
          refine va_iast (cA := k 47) (n := 120) (f := (vF 47)) hx hb hK hP hD hS 48 47 (WR_get 47 (by decide)) (TR_get 47 (by decide)) (vp_in_nI (show dB < 120 by omega) (by omega)) dX12_begin1_166 (fun H locs hP hD hS => ?_)
          have hP : va_P (dC, dI) vwCl (WR a k h0 (fT vi 75 (nI (wi + 1))) vj (fT (fT (fT (fT (fT vF 39 (upd (vF 39) ((nI dB)).toNatClampNeg rv)) 40 (upd (vF 40) ((nI dB)).toNatClampNeg 0)) 41 (upd (vF 41) ((nI dB)).toNatClampNeg (-1))) 42 (upd (vF 42) ((nI dB)).toNatClampNeg (-1))) 47 (upd (vF 47) ((nI dB)).toNatClampNeg (nI fn))) vG) H := fz_w (WR_F 47 (by decide) _ rfl) hP
          have hD : va_D A (WR a k h0 (fT vi 75 (nI (wi + 1))) vj (fT (fT (fT (fT (fT vF 39 (upd (vF 39) ((nI dB)).toNatClampNeg rv)) 40 (upd (vF 40) ((nI dB)).toNatClampNeg 0)) 41 (upd (vF 41) ((nI dB)).toNatClampNeg (-1))) 42 (upd (vF 42) ((nI dB)).toNatClampNeg (-1))) 47 (upd (vF 47) ((nI dB)).toNatClampNeg (nI fn))) vG) := fz_wD (WR_F 47 (by decide) _ rfl) hD
          refine lv_aload_n hx hb dX12_begin1_167 rfl (lv_at hl 1 rfl) ?_
          refine va_get (D := (dC, dI)) (ci := 12) (v := .ref (a 48)) (C := RX12) (T := TX12) (N := 163) (fs := fM (vS a (fT vi 75 (nI (wi + 1))) vj)) hx hb hts iwsRX12_begin1_in12 hown hK hP 0 rfl rfl 73 (by decide) (hts _ hm_r_X12_begin1_8) (fun _ h9 => h9) rfl dX12_begin1_168 ?_
          refine lv_aload_n hx hb dX12_begin1_171 rfl (lv_at hl 1 rfl) ?_
          refine va_get (D := (dC, dI)) (ci := 12) (v := .int (vi 74)) (C := RX12) (T := TX12) (N := 163) (fs := fM (vS a (fT vi 75 (nI (wi + 1))) vj)) hx hb hts iwsRX12_begin1_in12 hown hK hP 0 rfl rfl 74 (by decide) (hts _ hm_r_X12_begin1_2) (fun _ h9 => h9) rfl dX12_begin1_172 ?_
          refine lv_topi (fun y21 hy21 => ?_)
          obtain rfl : (nI dB) = y21 := (hy21.trans (hdB)).symm
          refine lv_iload_n hx hb dX12_begin1_175 rfl (lv_at hl 0 rfl) ?_
          refine lv_if_eq (tgt := 183) hx hb dX12_begin1_176 (by decide) (fun c9 => False.elim (by have t9 : (zq).toInt = 0 := toI_eq c9 rfl (by decide); omega)) (fun c_176 => ?_)
          have t_176 : ¬ (zq).toInt = 0 := toI_neq c_176 rfl (by decide)
          refine lv_iconst (v := 1) hx hb dX12_begin1_179 (by decide) ?_
          refine lv_goto (tgt := 184) hx hb dX12_begin1_180 (by decide) ?_
          refine va_iast (cA := k 48) (n := 120) (f := (vF 48)) hx hb hK hP hD hS 49 48 (WR_get 48 (by decide)) (TR_get 48 (by decide)) (vp_in_nI (show dB < 120 by omega) (by omega)) dX12_begin1_184 (fun H locs hP hD hS => ?_)
          have hP : va_P (dC, dI) vwCl (WR a k h0 (fT vi 75 (nI (wi + 1))) vj (fT (fT (fT (fT (fT (fT vF 39 (upd (vF 39) ((nI dB)).toNatClampNeg rv)) 40 (upd (vF 40) ((nI dB)).toNatClampNeg 0)) 41 (upd (vF 41) ((nI dB)).toNatClampNeg (-1))) 42 (upd (vF 42) ((nI dB)).toNatClampNeg (-1))) 47 (upd (vF 47) ((nI dB)).toNatClampNeg (nI fn))) 48 (upd (vF 48) ((nI dB)).toNatClampNeg 1)) vG) H := fz_w (WR_F 48 (by decide) _ rfl) hP
          have hD : va_D A (WR a k h0 (fT vi 75 (nI (wi + 1))) vj (fT (fT (fT (fT (fT (fT vF 39 (upd (vF 39) ((nI dB)).toNatClampNeg rv)) 40 (upd (vF 40) ((nI dB)).toNatClampNeg 0)) 41 (upd (vF 41) ((nI dB)).toNatClampNeg (-1))) 42 (upd (vF 42) ((nI dB)).toNatClampNeg (-1))) 47 (upd (vF 47) ((nI dB)).toNatClampNeg (nI fn))) 48 (upd (vF 48) ((nI dB)).toNatClampNeg 1)) vG) := fz_wD (WR_F 48 (by decide) _ rfl) hD
          refine lv_aload_n hx hb dX12_begin1_185 rfl (lv_at hl 1 rfl) ?_
          refine lv_dup hx hb dX12_begin1_186 rfl ?_
          refine va_get (D := (dC, dI)) (ci := 12) (v := .int (vi 74)) (C := RX12) (T := TX12) (N := 163) (fs := fM (vS a (fT vi 75 (nI (wi + 1))) vj)) hx hb hts iwsRX12_begin1_in12 hown hK hP 0 rfl rfl 74 (by decide) (hts _ hm_r_X12_begin1_2) (fun _ h9 => h9) rfl dX12_begin1_187 ?_
          refine lv_topi (fun y22 hy22 => ?_)
          obtain rfl : (nI dB) = y22 := (hy22.trans (hdB)).symm
          refine lv_iconst (v := 1) hx hb dX12_begin1_190 (by decide) ?_
          refine lv_iadd hx hb dX12_begin1_191 ?_
          refine lv_topi (fun y23 hy23 => ?_)
          obtain rfl : (nI (dB + 1)) = y23 := (hy23.trans (nI_add dB 1)).symm
          refine va_put (D := (dC, dI)) (ci := 12) (v := .int (nI (dB + 1))) (ty := .int) (C := RX12) (T := TX12) (N := 163) (fs := fM (vS a (fT vi 75 (nI (wi + 1))) vj)) hx hb hts iwsRX12_begin1_in12 tyX12 tyX12_ok nmX12 hown hK hP hD hS 0 rfl rfl 74 (by decide) (hts _ hm_r_X12_begin1_2) (fun _ h9 => h9) rfl (by decide +kernel) rfl rfl (Nat.le_of_ble_eq_true rfl) dX12_begin1_192 (fun H locs hP hD hS => ?_)
          have hP : va_P (dC, dI) vwCl (WR a k h0 (fT (fT vi 75 (nI (wi + 1))) 74 (nI (dB + 1))) vj (fT (fT (fT (fT (fT (fT vF 39 (upd (vF 39) ((nI dB)).toNatClampNeg rv)) 40 (upd (vF 40) ((nI dB)).toNatClampNeg 0)) 41 (upd (vF 41) ((nI dB)).toNatClampNeg (-1))) 42 (upd (vF 42) ((nI dB)).toNatClampNeg (-1))) 47 (upd (vF 47) ((nI dB)).toNatClampNeg (nI fn))) 48 (upd (vF 48) ((nI dB)).toNatClampNeg 1)) vG) H := fz_w (WR_i 74 _ rfl) hP
          have hD : va_D A (WR a k h0 (fT (fT vi 75 (nI (wi + 1))) 74 (nI (dB + 1))) vj (fT (fT (fT (fT (fT (fT vF 39 (upd (vF 39) ((nI dB)).toNatClampNeg rv)) 40 (upd (vF 40) ((nI dB)).toNatClampNeg 0)) 41 (upd (vF 41) ((nI dB)).toNatClampNeg (-1))) 42 (upd (vF 42) ((nI dB)).toNatClampNeg (-1))) 47 (upd (vF 47) ((nI dB)).toNatClampNeg (nI fn))) 48 (upd (vF 48) ((nI dB)).toNatClampNeg 1)) vG) := fz_wD (WR_i 74 _ rfl) hD
          refine W.widen (k := 0) (n := 0) (by decide +kernel) (by decide +kernel) ?_
          have e9 : fT (fT (fT (fT vi 75 (nI (wi + 1))) 74 (nI (dB + 1))) 21 (vi 21)) 22 (vi 22) = fT (fT vi 75 (nI (wi + 1))) 74 (nI (dB + 1)) := (fT_id _ _ ((fT_ne _ _ (Nat.ne_of_beq_eq_false rfl)).trans ((fT_ne _ _ (Nat.ne_of_beq_eq_false rfl)).trans (fT_ne _ _ (Nat.ne_of_beq_eq_false rfl))))).trans (fT_id _ _ ((fT_ne _ _ (Nat.ne_of_beq_eq_false rfl)).trans (fT_ne _ _ (Nat.ne_of_beq_eq_false rfl))))
          have hP := wr_Pi e9 hP
          have hD := wr_Di e9 hD
          clear e9
          exact W.vret hx hb hr (fun t9_ ht hW => ⟨⟨((vi 21), (vi 22), (upd (vF 39) ((nI dB)).toNatClampNeg rv), (upd (vF 40) ((nI dB)).toNatClampNeg 0), (upd (vF 41) ((nI dB)).toNatClampNeg (-1)), (upd (vF 42) ((nI dB)).toNatClampNeg (-1)), (upd (vF 47) ((nI dB)).toNatClampNeg (nI fn)), (upd (vF 48) ((nI dB)).toNatClampNeg 1), (dB + 1), (wi + 1)), rfl, by (try dsimp only); exact ⟨hst0, Or.inr ⟨rfl, 1, ⟨by omega, fun _ => rfl, fun _ _ => rfl⟩, ⟨rfl, by omega, rfl⟩, by rw [upd_at (by omega), if_pos rfl], by rw [upd_at (by omega), if_pos rfl], by rw [upd_at (by omega), if_pos rfl], by rw [upd_at (by omega), if_pos rfl], by rw [upd_at (by omega), if_pos rfl]; decide⟩, fun q h9 => ⟨by rw [upd_at (by omega), if_neg h9], by rw [upd_at (by omega), if_neg h9], by rw [upd_at (by omega), if_neg h9], by rw [upd_at (by omega), if_neg h9], by rw [upd_at (by omega), if_neg h9]⟩, by omega⟩, by rw [ht]; exact hP, hD⟩, hS.F ht⟩) hS.2.2 dX12_begin1_195
        · have t_38 : ((wi : Nat) : Int) = 25 := toI_nne c_38 (nI_toInt (by omega)) (by decide)
          refine lv_iload_n hx hb dX12_begin1_41 rfl (lv_at hl 2 rfl) ?_
          refine lv_iconst (v := 2) hx hb dX12_begin1_42 (by decide) ?_
          refine W.cut (pc := 56) (fun H locs ls stk => ∃ (zt : Int32),  stk = [.int zt] ∧ va_P (dC, dI) vwCl (WR a k h0 vi vj vF vG) H ∧ va_D A (WR a k h0 vi vj vF vG) ∧ va_S A s.heap H locs ∧ lv_has ls 4 [(2, .int zq), (0, .ref h0), (1, .int rv)]) (fun join2 => ?_) ?_
          · refine lv_icmp_eq (tgt := 51) hx hb dX12_begin1_43 (by decide) (fun c_43 => ?_) (fun c_43 => ?_)
            · have t_43 : (rv).toInt = 2 := toI_eq c_43 rfl (by decide)
              refine lv_iconst (v := 1) hx hb dX12_begin1_51 (by decide) ?_
              refine lv_goto (tgt := 56) hx hb dX12_begin1_52 (by decide) ?_
              have hl : lv_has _ _ ([(2, .int zq), (0, .ref h0), (1, .int rv)]) := lv_sub hl [0, 1, 2] rfl
              exact join2 _ _ _ _ ⟨1, rfl, hP, hD, hS, hl⟩
            · have t_43 : ¬ (rv).toInt = 2 := toI_neq c_43 rfl (by decide)
              refine lv_iload_n hx hb dX12_begin1_46 rfl (lv_at hl 2 rfl) ?_
              refine lv_iconst (v := 3) hx hb dX12_begin1_47 (by decide) ?_
              refine lv_icmp_ne (tgt := 55) hx hb dX12_begin1_48 (by decide) (fun c_48 => ?_) (fun c_48 => ?_)
              · have t_48 : (rv).toInt ≠ 3 := toI_ne c_48 rfl (by decide)
                refine lv_iconst (v := 0) hx hb dX12_begin1_55 (by decide) ?_
                have hl : lv_has _ _ ([(2, .int zq), (0, .ref h0), (1, .int rv)]) := lv_sub hl [0, 1, 2] rfl
                exact join2 _ _ _ _ ⟨0, rfl, hP, hD, hS, hl⟩
              · have t_48 : (rv).toInt = 3 := toI_nne c_48 rfl (by decide)
                refine lv_iconst (v := 1) hx hb dX12_begin1_51 (by decide) ?_
                refine lv_goto (tgt := 56) hx hb dX12_begin1_52 (by decide) ?_
                have hl : lv_has _ _ ([(2, .int zq), (0, .ref h0), (1, .int rv)]) := lv_sub hl [0, 1, 2] rfl
                exact join2 _ _ _ _ ⟨1, rfl, hP, hD, hS, hl⟩
          · rintro H locs ls stk ⟨zt, rfl, hP, hD, hS, hl⟩
            refine lv_istore_n hx hb dX12_begin1_56 rfl hl (by decide) rfl (fun ls (hl : lv_has ls _ ([(3, .int zt), (2, .int zq), (0, .ref h0), (1, .int rv)])) => ?_)
            refine lv_iload_n hx hb dX12_begin1_57 rfl (lv_at hl 0 rfl) ?_
            refine lv_if_eq (tgt := 79) hx hb dX12_begin1_58 (by decide) (fun c_58 => ?_) (fun c_58 => ?_)
            · have t_58 : (zt).toInt = 0 := toI_eq c_58 rfl (by decide)
              refine lv_aload_n hx hb dX12_begin1_79 rfl (lv_at hl 2 rfl) ?_
              have hFc := allFree hD hS hA
              refine va_calli (va_runV (As := []) (rest := []) ⟨hx, hb, hml, hown, hts⟩ (r_X12_canBegin l dC dI a k h0 vi vj vF vG tp an fn nm se pa va bd hTp (by first | with_reducible assumption | decide | omega | rfl | assumption) ha0 hfr (by first | with_reducible assumption | decide | omega | rfl | assumption) (by first | with_reducible assumption | decide | omega | rfl | assumption) hnm (by first | with_reducible assumption | decide | omega | rfl | assumption) (by first | with_reducible assumption | decide | omega | rfl | assumption) (by first | with_reducible assumption | decide | omega | rfl | assumption) hbd (by first | with_reducible assumption | decide | omega | rfl | assumption) (by first | with_reducible assumption | decide | omega | rfl | assumption) H.size) (cwV 0 hts gwsRX12_begin1_1 rfl rfl rfl hd_yX12_canBegin_RX12 (by decide +kernel)) (fz_pre (va_recv hK hP (ci := 12) (q0 := 0) rfl rfl) hP hK hD) rfl rfl hl.1 rfl (lv_room (Nat.le_of_ble_eq_true rfl)) dX12_begin1_80 (by decide +kernel)) hS (fun q _ h => hFc q h) hFc (fun r80 u t9_ H locs ht hvm hw9 hB9 hz1 hk1 hS => ?_)
              revert u hw9 hB9
              refine fz_p2 ?_
              intro s280 p280 hw9 hB9
              try dsimp only at hw9 hB9
              have hP : va_P (dC, dI) vwCl (WR a k h0 (fT (fT vi 21 s280) 22 p280) vj vF vG) H := fz_P ht hB9.1
              have hD := fz_sd hP (hB9.2.weaken (fun _ q _ h => hFc q.1 h)) rfl
              rcases hw9 with ⟨rfl, f80_0, f80_1, f80_2⟩ | ⟨rfl, f80_0⟩
              · have f80_1 : CbW (vi 18) (vi 20) := f80_1
                have f80_2 : CbQ (vi 18) (vF 9) (vF 10) (vF 11) (vF 12) (vF 14) (vF 15) fn an nm bd := f80_2
                refine lv_if_eq (tgt := 95) hx hb dX12_begin1_83 (by decide) (fun c9 => absurd c9 (by decide)) (fun _ => ?_)
                refine lv_aload_n hx hb dX12_begin1_86 rfl (lv_at hl 2 rfl) ?_
                refine lv_iconst (v := 4) hx hb dX12_begin1_87 (by decide) ?_
                refine lv_aload_n hx hb dX12_begin1_88 rfl (lv_at hl 2 rfl) ?_
                refine va_get (D := (dC, dI)) (ci := 12) (v := .int (vi 19)) (C := RX12) (T := TX12) (N := 163) (fs := fM (vS a (fT (fT vi 21 s280) 22 p280) vj)) hx hb hts iwsRX12_begin1_in12 hown hK hP 0 rfl rfl 19 (by decide) (hts _ hm_r_X12_begin1_7) (fun _ h9 => h9) rfl dX12_begin1_89 ?_
                refine lv_topi (fun y24 hy24 => ?_)
                obtain rfl : (nI fn) = y24 := (hy24.trans (hfr)).symm
                have hFc := allFree hD hS hA
                refine va_callv (va_runV (As := [.int 4, .int (nI fn)]) (rest := []) ⟨hx, hb, hml, hown, hts⟩ (r_X12_faultAt l dC dI a k h0 (fT (fT vi 21 s280) 22 p280) vj vF vG 4 (nI fn) (by first | with_reducible assumption | decide | omega | rfl | assumption) H.size) (cwV 2 hts gwsRX12_begin1_2 rfl rfl rfl hd_yX12_faultAt_RX12 (by decide +kernel)) (fz_pre (va_recv hK hP (ci := 12) (q0 := 0) rfl rfl) hP hK hD) rfl rfl hl.1 rfl (lv_room (Nat.le_of_ble_eq_true rfl)) dX12_begin1_92 (by decide +kernel)) hS (fun q _ h => hFc q h) hFc (fun u t9_ H locs ht hvm hw9 hB9 hz1 hk1 hS => ?_)
                revert u hw9 hB9
                refine fz_p2 ?_
                intro s292 p292 hw9 hB9
                try dsimp only at hw9 hB9
                have e9i : fT (fT vi 21 s292) 22 p292 = fT (fT (fT (fT vi 21 s280) 22 p280) 21 s292) 22 p292 := ((congrArg (fun g9 => fT g9 22 p292) ((fT_sw _ _ _ (Nat.ne_of_beq_eq_false rfl)).trans (congrArg (fun g9 => fT g9 22 p280) (fT_sm _ _ _ _)))).trans (fT_sm _ _ _ _)).symm
                have hP := wr_Pi e9i (fz_P ht hB9.1)
                have hD := wr_Di e9i (hB9.2.weaken (fun _ q _ h => hFc q.1 h))
                clear e9i
                revert hw9
                refine fz_a2 ?_
                intro f92_0 f92_1
                have f92_0 : (0 < s280.toInt ∧ s292 = s280 ∧ p292 = p280) ∨ (¬ 0 < s280.toInt ∧ s292 = 4 ∧ p292 = (nI fn)) := f92_0
                refine W.widen (k := 0) (n := 0) (by decide +kernel) (by decide +kernel) ?_
                have e9 : fT (fT (fT (fT vi 75 (nI wi)) 74 (nI dB)) 21 s292) 22 p292 = fT (fT vi 21 s292) 22 p292 := Eq.trans (mv_3 rfl) (Eq.trans (congrArg (fT _ 75) (show nI wi = vi 75 from (by first | with_reducible rfl | with_reducible assumption | (symm; with_reducible assumption) | rfl | assumption | (symm; assumption) | (subst_vars; rfl)))) (Eq.trans (id_3 rfl) (Eq.trans (mv_2 rfl) (Eq.trans (congrArg (fT _ 74) (show nI dB = vi 74 from (by first | with_reducible rfl | with_reducible assumption | (symm; with_reducible assumption) | rfl | assumption | (symm; assumption) | (subst_vars; rfl)))) (id_2 rfl)))))
                have hP := wr_Pi e9 hP
                have hD := wr_Di e9 hD
                clear e9
                have e9 : fT (fT (fT (fT (fT (fT vF 39 (vF 39)) 40 (vF 40)) 41 (vF 41)) 42 (vF 42)) 47 (vF 47)) 48 (vF 48) = vF := Eq.trans (mv_5 rfl) (Eq.trans (id_5 rfl) (Eq.trans (mv_4 rfl) (Eq.trans (id_4 rfl) (Eq.trans (mv_3 rfl) (Eq.trans (id_3 rfl) (Eq.trans (mv_2 rfl) (Eq.trans (id_2 rfl) (Eq.trans (mv_1 rfl) (Eq.trans (id_1 rfl) (id_0 rfl))))))))))
                have hP := wr_PF e9 hP
                have hD := wr_DF e9 hD
                clear e9
                exact W.vret hx hb hr (fun t9_ ht hW => ⟨⟨(s292, p292, (vF 39), (vF 40), (vF 41), (vF 42), (vF 47), (vF 48), dB, wi), rfl, by (try dsimp only); exact ⟨by omega, Or.inl (by omega), fun _ _ => ⟨rfl, rfl, rfl, rfl, rfl⟩, by omega⟩, by rw [ht]; exact hP, hD⟩, hS.F ht⟩) hS.2.2 dX12_begin1_95
              · refine lv_if_eq (tgt := 95) hx hb dX12_begin1_83 (by decide) (fun _ => ?_) (fun c9 => absurd (by decide) c9)
                refine W.widen (k := 0) (n := 0) (by decide +kernel) (by decide +kernel) ?_
                have e9 : fT (fT (fT (fT vi 75 (nI wi)) 74 (nI dB)) 21 s280) 22 p280 = fT (fT vi 21 s280) 22 p280 := Eq.trans (mv_3 rfl) (Eq.trans (congrArg (fT _ 75) (show nI wi = vi 75 from (by first | with_reducible rfl | with_reducible assumption | (symm; with_reducible assumption) | rfl | assumption | (symm; assumption) | (subst_vars; rfl)))) (Eq.trans (id_3 rfl) (Eq.trans (mv_2 rfl) (Eq.trans (congrArg (fT _ 74) (show nI dB = vi 74 from (by first | with_reducible rfl | with_reducible assumption | (symm; with_reducible assumption) | rfl | assumption | (symm; assumption) | (subst_vars; rfl)))) (id_2 rfl)))))
                have hP := wr_Pi e9 hP
                have hD := wr_Di e9 hD
                clear e9
                have e9 : fT (fT (fT (fT (fT (fT vF 39 (vF 39)) 40 (vF 40)) 41 (vF 41)) 42 (vF 42)) 47 (vF 47)) 48 (vF 48) = vF := Eq.trans (mv_5 rfl) (Eq.trans (id_5 rfl) (Eq.trans (mv_4 rfl) (Eq.trans (id_4 rfl) (Eq.trans (mv_3 rfl) (Eq.trans (id_3 rfl) (Eq.trans (mv_2 rfl) (Eq.trans (id_2 rfl) (Eq.trans (mv_1 rfl) (Eq.trans (id_1 rfl) (id_0 rfl))))))))))
                have hP := wr_PF e9 hP
                have hD := wr_DF e9 hD
                clear e9
                exact W.vret hx hb hr (fun t9_ ht hW => ⟨⟨(s280, p280, (vF 39), (vF 40), (vF 41), (vF 42), (vF 47), (vF 48), dB, wi), rfl, by (try dsimp only); exact ⟨by omega, Or.inl (by omega), fun _ _ => ⟨rfl, rfl, rfl, rfl, rfl⟩, by omega⟩, by rw [ht]; exact hP, hD⟩, hS.F ht⟩) hS.2.2 dX12_begin1_95
            · have t_58 : ¬ (zt).toInt = 0 := toI_neq c_58 rfl (by decide)
              refine lv_aload_n hx hb dX12_begin1_61 rfl (lv_at hl 2 rfl) ?_
              refine lv_bipush (v := 10) hx hb dX12_begin1_62 (by decide) ?_
              have hFc := allFree hD hS hA
              refine va_calli (va_runV (As := [.int 10]) (rest := []) ⟨hx, hb, hml, hown, hts⟩ (r_X12_isKey l dC dI a k h0 vi vj vF vG 10 H.size) (cwV 1 hts gwsRX12_begin1_0 rfl rfl rfl hd_yX12_isKey_RX12 (by decide +kernel)) (fz_pre (va_recv hK hP (ci := 12) (q0 := 0) rfl rfl) hP hK hD) rfl rfl hl.1 rfl (lv_room (Nat.le_of_ble_eq_true rfl)) dX12_begin1_64 (by decide +kernel)) hS (fun q _ h => hFc q h) hFc (fun r64 u t9_ H locs ht hvm hw9 hB9 hz1 hk1 hS => ?_)
              have hP : va_P (dC, dI) vwCl (WR a k h0 vi vj vF vG) H := fz_P ht hB9.1
              have hD := fz_sd hP (hB9.2.weaken (fun _ q _ h => hFc q.1 h)) rfl
              rcases hw9 with ⟨rfl, f64_0, f64_1⟩ | ⟨rfl, f64_0⟩
              · have f64_0 : (vi 18).toInt = 2 := f64_0
                have f64_1 : (vi 20) = 10 := f64_1
                refine lv_if_ne (tgt := 86) hx hb dX12_begin1_67 (by decide) (fun _ => ?_) (fun c9 => absurd c9 (by decide))
                refine lv_aload_n hx hb dX12_begin1_86 rfl (lv_at hl 2 rfl) ?_
                refine lv_iconst (v := 4) hx hb dX12_begin1_87 (by decide) ?_
                refine lv_aload_n hx hb dX12_begin1_88 rfl (lv_at hl 2 rfl) ?_
                refine va_get (D := (dC, dI)) (ci := 12) (v := .int (vi 19)) (C := RX12) (T := TX12) (N := 163) (fs := fM (vS a vi vj)) hx hb hts iwsRX12_begin1_in12 hown hK hP 0 rfl rfl 19 (by decide) (hts _ hm_r_X12_begin1_7) (fun _ h9 => h9) rfl dX12_begin1_89 ?_
                refine lv_topi (fun y25 hy25 => ?_)
                obtain rfl : (nI fn) = y25 := (hy25.trans (hfr)).symm
                have hFc := allFree hD hS hA
                refine va_callv (va_runV (As := [.int 4, .int (nI fn)]) (rest := []) ⟨hx, hb, hml, hown, hts⟩ (r_X12_faultAt l dC dI a k h0 vi vj vF vG 4 (nI fn) (by first | with_reducible assumption | decide | omega | rfl | assumption) H.size) (cwV 2 hts gwsRX12_begin1_2 rfl rfl rfl hd_yX12_faultAt_RX12 (by decide +kernel)) (fz_pre (va_recv hK hP (ci := 12) (q0 := 0) rfl rfl) hP hK hD) rfl rfl hl.1 rfl (lv_room (Nat.le_of_ble_eq_true rfl)) dX12_begin1_92 (by decide +kernel)) hS (fun q _ h => hFc q h) hFc (fun u t9_ H locs ht hvm hw9 hB9 hz1 hk1 hS => ?_)
                revert u hw9 hB9
                refine fz_p2 ?_
                intro s292_1 p292_1 hw9 hB9
                try dsimp only at hw9 hB9
                have hP : va_P (dC, dI) vwCl (WR a k h0 (fT (fT vi 21 s292_1) 22 p292_1) vj vF vG) H := fz_P ht hB9.1
                have hD := fz_sd hP (hB9.2.weaken (fun _ q _ h => hFc q.1 h)) rfl
                revert hw9
                refine fz_a2 ?_
                intro f92_1_0 f92_1_1
                have f92_1_0 : (0 < (vi 21).toInt ∧ s292_1 = (vi 21) ∧ p292_1 = (vi 22)) ∨ (¬ 0 < (vi 21).toInt ∧ s292_1 = 4 ∧ p292_1 = (nI fn)) := f92_1_0
                refine W.widen (k := 0) (n := 0) (by decide +kernel) (by decide +kernel) ?_
                have e9 : fT (fT (fT (fT vi 75 (nI wi)) 74 (nI dB)) 21 s292_1) 22 p292_1 = fT (fT vi 21 s292_1) 22 p292_1 := Eq.trans (mv_3 rfl) (Eq.trans (congrArg (fT _ 75) (show nI wi = vi 75 from (by first | with_reducible rfl | with_reducible assumption | (symm; with_reducible assumption) | rfl | assumption | (symm; assumption) | (subst_vars; rfl)))) (Eq.trans (id_3 rfl) (Eq.trans (mv_2 rfl) (Eq.trans (congrArg (fT _ 74) (show nI dB = vi 74 from (by first | with_reducible rfl | with_reducible assumption | (symm; with_reducible assumption) | rfl | assumption | (symm; assumption) | (subst_vars; rfl)))) (id_2 rfl)))))
                have hP := wr_Pi e9 hP
                have hD := wr_Di e9 hD
                clear e9
                have e9 : fT (fT (fT (fT (fT (fT vF 39 (vF 39)) 40 (vF 40)) 41 (vF 41)) 42 (vF 42)) 47 (vF 47)) 48 (vF 48) = vF := Eq.trans (mv_5 rfl) (Eq.trans (id_5 rfl) (Eq.trans (mv_4 rfl) (Eq.trans (id_4 rfl) (Eq.trans (mv_3 rfl) (Eq.trans (id_3 rfl) (Eq.trans (mv_2 rfl) (Eq.trans (id_2 rfl) (Eq.trans (mv_1 rfl) (Eq.trans (id_1 rfl) (id_0 rfl))))))))))
                have hP := wr_PF e9 hP
                have hD := wr_DF e9 hD
                clear e9
                exact W.vret hx hb hr (fun t9_ ht hW => ⟨⟨(s292_1, p292_1, (vF 39), (vF 40), (vF 41), (vF 42), (vF 47), (vF 48), dB, wi), rfl, by (try dsimp only); exact ⟨by omega, Or.inl (by omega), fun _ _ => ⟨rfl, rfl, rfl, rfl, rfl⟩, by omega⟩, by rw [ht]; exact hP, hD⟩, hS.F ht⟩) hS.2.2 dX12_begin1_95
              · have f64_0 : ¬ ((vi 18).toInt = 2 ∧ (vi 20) = 10) := f64_0
                refine lv_if_ne (tgt := 86) hx hb dX12_begin1_67 (by decide) (fun c9 => absurd c9 (by decide)) (fun _ => ?_)
                refine lv_aload_n hx hb dX12_begin1_70 rfl (lv_at hl 2 rfl) ?_
                refine lv_bipush (v := 123) hx hb dX12_begin1_71 (by decide) ?_
                have hFc := allFree hD hS hA
                refine va_calli (va_runV (As := [.int 123]) (rest := []) ⟨hx, hb, hml, hown, hts⟩ (r_X12_isSign l dC dI a k h0 vi vj vF vG 123 H.size) (cwV 1 hts gwsRX12_begin1_3 rfl rfl rfl hd_yX12_isSign_RX12 (by decide +kernel)) (fz_pre (va_recv hK hP (ci := 12) (q0 := 0) rfl rfl) hP hK hD) rfl rfl hl.1 rfl (lv_room (Nat.le_of_ble_eq_true rfl)) dX12_begin1_73 (by decide +kernel)) hS (fun q _ h => hFc q h) hFc (fun r73 u t9_ H locs ht hvm hw9 hB9 hz1 hk1 hS => ?_)
                have hP : va_P (dC, dI) vwCl (WR a k h0 vi vj vF vG) H := fz_P ht hB9.1
                have hD := fz_sd hP (hB9.2.weaken (fun _ q _ h => hFc q.1 h)) rfl
                rcases hw9 with ⟨rfl, f73_0, f73_1⟩ | ⟨rfl, f73_0⟩
                · have f73_0 : (vi 18).toInt = 4 := f73_0
                  have f73_1 : (vi 20) = 123 := f73_1
                  refine lv_if_ne (tgt := 86) hx hb dX12_begin1_76 (by decide) (fun _ => ?_) (fun c9 => absurd c9 (by decide))
                  refine lv_aload_n hx hb dX12_begin1_86 rfl (lv_at hl 2 rfl) ?_
                  refine lv_iconst (v := 4) hx hb dX12_begin1_87 (by decide) ?_
                  refine lv_aload_n hx hb dX12_begin1_88 rfl (lv_at hl 2 rfl) ?_
                  refine va_get (D := (dC, dI)) (ci := 12) (v := .int (vi 19)) (C := RX12) (T := TX12) (N := 163) (fs := fM (vS a vi vj)) hx hb hts iwsRX12_begin1_in12 hown hK hP 0 rfl rfl 19 (by decide) (hts _ hm_r_X12_begin1_7) (fun _ h9 => h9) rfl dX12_begin1_89 ?_
                  refine lv_topi (fun y26 hy26 => ?_)
                  obtain rfl : (nI fn) = y26 := (hy26.trans (hfr)).symm
                  have hFc := allFree hD hS hA
                  refine va_callv (va_runV (As := [.int 4, .int (nI fn)]) (rest := []) ⟨hx, hb, hml, hown, hts⟩ (r_X12_faultAt l dC dI a k h0 vi vj vF vG 4 (nI fn) (by first | with_reducible assumption | decide | omega | rfl | assumption) H.size) (cwV 2 hts gwsRX12_begin1_2 rfl rfl rfl hd_yX12_faultAt_RX12 (by decide +kernel)) (fz_pre (va_recv hK hP (ci := 12) (q0 := 0) rfl rfl) hP hK hD) rfl rfl hl.1 rfl (lv_room (Nat.le_of_ble_eq_true rfl)) dX12_begin1_92 (by decide +kernel)) hS (fun q _ h => hFc q h) hFc (fun u t9_ H locs ht hvm hw9 hB9 hz1 hk1 hS => ?_)
                  revert u hw9 hB9
                  refine fz_p2 ?_
                  intro s292_2 p292_2 hw9 hB9
                  try dsimp only at hw9 hB9
                  have hP : va_P (dC, dI) vwCl (WR a k h0 (fT (fT vi 21 s292_2) 22 p292_2) vj vF vG) H := fz_P ht hB9.1
                  have hD := fz_sd hP (hB9.2.weaken (fun _ q _ h => hFc q.1 h)) rfl
                  revert hw9
                  refine fz_a2 ?_
                  intro f92_2_0 f92_2_1
                  have f92_2_0 : (0 < (vi 21).toInt ∧ s292_2 = (vi 21) ∧ p292_2 = (vi 22)) ∨ (¬ 0 < (vi 21).toInt ∧ s292_2 = 4 ∧ p292_2 = (nI fn)) := f92_2_0
                  refine W.widen (k := 0) (n := 0) (by decide +kernel) (by decide +kernel) ?_
                  have e9 : fT (fT (fT (fT vi 75 (nI wi)) 74 (nI dB)) 21 s292_2) 22 p292_2 = fT (fT vi 21 s292_2) 22 p292_2 := Eq.trans (mv_3 rfl) (Eq.trans (congrArg (fT _ 75) (show nI wi = vi 75 from (by first | with_reducible rfl | with_reducible assumption | (symm; with_reducible assumption) | rfl | assumption | (symm; assumption) | (subst_vars; rfl)))) (Eq.trans (id_3 rfl) (Eq.trans (mv_2 rfl) (Eq.trans (congrArg (fT _ 74) (show nI dB = vi 74 from (by first | with_reducible rfl | with_reducible assumption | (symm; with_reducible assumption) | rfl | assumption | (symm; assumption) | (subst_vars; rfl)))) (id_2 rfl)))))
                  have hP := wr_Pi e9 hP
                  have hD := wr_Di e9 hD
                  clear e9
                  have e9 : fT (fT (fT (fT (fT (fT vF 39 (vF 39)) 40 (vF 40)) 41 (vF 41)) 42 (vF 42)) 47 (vF 47)) 48 (vF 48) = vF := Eq.trans (mv_5 rfl) (Eq.trans (id_5 rfl) (Eq.trans (mv_4 rfl) (Eq.trans (id_4 rfl) (Eq.trans (mv_3 rfl) (Eq.trans (id_3 rfl) (Eq.trans (mv_2 rfl) (Eq.trans (id_2 rfl) (Eq.trans (mv_1 rfl) (Eq.trans (id_1 rfl) (id_0 rfl))))))))))
                  have hP := wr_PF e9 hP
                  have hD := wr_DF e9 hD
                  clear e9
                  exact W.vret hx hb hr (fun t9_ ht hW => ⟨⟨(s292_2, p292_2, (vF 39), (vF 40), (vF 41), (vF 42), (vF 47), (vF 48), dB, wi), rfl, by (try dsimp only); exact ⟨by omega, Or.inl (by omega), fun _ _ => ⟨rfl, rfl, rfl, rfl, rfl⟩, by omega⟩, by rw [ht]; exact hP, hD⟩, hS.F ht⟩) hS.2.2 dX12_begin1_95
                · have f73_0 : ¬ ((vi 18).toInt = 4 ∧ (vi 20) = 123) := f73_0
                  refine lv_if_ne (tgt := 86) hx hb dX12_begin1_76 (by decide) (fun c9 => absurd c9 (by decide)) (fun _ => ?_)
                  refine lv_aload_n hx hb dX12_begin1_79 rfl (lv_at hl 2 rfl) ?_
                  have hFc := allFree hD hS hA
                  refine va_calli (va_runV (As := []) (rest := []) ⟨hx, hb, hml, hown, hts⟩ (r_X12_canBegin l dC dI a k h0 vi vj vF vG tp an fn nm se pa va bd hTp (by first | with_reducible assumption | decide | omega | rfl | assumption) ha0 hfr (by first | with_reducible assumption | decide | omega | rfl | assumption) (by first | with_reducible assumption | decide | omega | rfl | assumption) hnm (by first | with_reducible assumption | decide | omega | rfl | assumption) (by first | with_reducible assumption | decide | omega | rfl | assumption) (by first | with_reducible assumption | decide | omega | rfl | assumption) hbd (by first | with_reducible assumption | decide | omega | rfl | assumption) (by first | with_reducible assumption | decide | omega | rfl | assumption) H.size) (cwV 0 hts gwsRX12_begin1_1 rfl rfl rfl hd_yX12_canBegin_RX12 (by decide +kernel)) (fz_pre (va_recv hK hP (ci := 12) (q0 := 0) rfl rfl) hP hK hD) rfl rfl hl.1 rfl (lv_room (Nat.le_of_ble_eq_true rfl)) dX12_begin1_80 (by decide +kernel)) hS (fun q _ h => hFc q h) hFc (fun r80_1 u t9_ H locs ht hvm hw9 hB9 hz1 hk1 hS => ?_)
                  revert u hw9 hB9
                  refine fz_p2 ?_
                  intro s280_1 p280_1 hw9 hB9
                  try dsimp only at hw9 hB9
                  have hP : va_P (dC, dI) vwCl (WR a k h0 (fT (fT vi 21 s280_1) 22 p280_1) vj vF vG) H := fz_P ht hB9.1
                  have hD := fz_sd hP (hB9.2.weaken (fun _ q _ h => hFc q.1 h)) rfl
                  rcases hw9 with ⟨rfl, f80_1_0, f80_1_1, f80_1_2⟩ | ⟨rfl, f80_1_0⟩
                  · have f80_1_1 : CbW (vi 18) (vi 20) := f80_1_1
                    have f80_1_2 : CbQ (vi 18) (vF 9) (vF 10) (vF 11) (vF 12) (vF 14) (vF 15) fn an nm bd := f80_1_2
                    refine lv_if_eq (tgt := 95) hx hb dX12_begin1_83 (by decide) (fun c9 => absurd c9 (by decide)) (fun _ => ?_)
                    refine lv_aload_n hx hb dX12_begin1_86 rfl (lv_at hl 2 rfl) ?_
                    refine lv_iconst (v := 4) hx hb dX12_begin1_87 (by decide) ?_
                    refine lv_aload_n hx hb dX12_begin1_88 rfl (lv_at hl 2 rfl) ?_
                    refine va_get (D := (dC, dI)) (ci := 12) (v := .int (vi 19)) (C := RX12) (T := TX12) (N := 163) (fs := fM (vS a (fT (fT vi 21 s280_1) 22 p280_1) vj)) hx hb hts iwsRX12_begin1_in12 hown hK hP 0 rfl rfl 19 (by decide) (hts _ hm_r_X12_begin1_7) (fun _ h9 => h9) rfl dX12_begin1_89 ?_
                    refine lv_topi (fun y27 hy27 => ?_)
                    obtain rfl : (nI fn) = y27 := (hy27.trans (hfr)).symm
                    have hFc := allFree hD hS hA
                    refine va_callv (va_runV (As := [.int 4, .int (nI fn)]) (rest := []) ⟨hx, hb, hml, hown, hts⟩ (r_X12_faultAt l dC dI a k h0 (fT (fT vi 21 s280_1) 22 p280_1) vj vF vG 4 (nI fn) (by first | with_reducible assumption | decide | omega | rfl | assumption) H.size) (cwV 2 hts gwsRX12_begin1_2 rfl rfl rfl hd_yX12_faultAt_RX12 (by decide +kernel)) (fz_pre (va_recv hK hP (ci := 12) (q0 := 0) rfl rfl) hP hK hD) rfl rfl hl.1 rfl (lv_room (Nat.le_of_ble_eq_true rfl)) dX12_begin1_92 (by decide +kernel)) hS (fun q _ h => hFc q h) hFc (fun u t9_ H locs ht hvm hw9 hB9 hz1 hk1 hS => ?_)
                    revert u hw9 hB9
                    refine fz_p2 ?_
                    intro s292_3 p292_3 hw9 hB9
                    try dsimp only at hw9 hB9
                    have e9i : fT (fT vi 21 s292_3) 22 p292_3 = fT (fT (fT (fT vi 21 s280_1) 22 p280_1) 21 s292_3) 22 p292_3 := ((congrArg (fun g9 => fT g9 22 p292_3) ((fT_sw _ _ _ (Nat.ne_of_beq_eq_false rfl)).trans (congrArg (fun g9 => fT g9 22 p280_1) (fT_sm _ _ _ _)))).trans (fT_sm _ _ _ _)).symm
                    have hP := wr_Pi e9i (fz_P ht hB9.1)
                    have hD := wr_Di e9i (hB9.2.weaken (fun _ q _ h => hFc q.1 h))
                    clear e9i
                    revert hw9
                    refine fz_a2 ?_
                    intro f92_3_0 f92_3_1
                    have f92_3_0 : (0 < s280_1.toInt ∧ s292_3 = s280_1 ∧ p292_3 = p280_1) ∨ (¬ 0 < s280_1.toInt ∧ s292_3 = 4 ∧ p292_3 = (nI fn)) := f92_3_0
                    refine W.widen (k := 0) (n := 0) (by decide +kernel) (by decide +kernel) ?_
                    have e9 : fT (fT (fT (fT vi 75 (nI wi)) 74 (nI dB)) 21 s292_3) 22 p292_3 = fT (fT vi 21 s292_3) 22 p292_3 := Eq.trans (mv_3 rfl) (Eq.trans (congrArg (fT _ 75) (show nI wi = vi 75 from (by first | with_reducible rfl | with_reducible assumption | (symm; with_reducible assumption) | rfl | assumption | (symm; assumption) | (subst_vars; rfl)))) (Eq.trans (id_3 rfl) (Eq.trans (mv_2 rfl) (Eq.trans (congrArg (fT _ 74) (show nI dB = vi 74 from (by first | with_reducible rfl | with_reducible assumption | (symm; with_reducible assumption) | rfl | assumption | (symm; assumption) | (subst_vars; rfl)))) (id_2 rfl)))))
                    have hP := wr_Pi e9 hP
                    have hD := wr_Di e9 hD
                    clear e9
                    have e9 : fT (fT (fT (fT (fT (fT vF 39 (vF 39)) 40 (vF 40)) 41 (vF 41)) 42 (vF 42)) 47 (vF 47)) 48 (vF 48) = vF := Eq.trans (mv_5 rfl) (Eq.trans (id_5 rfl) (Eq.trans (mv_4 rfl) (Eq.trans (id_4 rfl) (Eq.trans (mv_3 rfl) (Eq.trans (id_3 rfl) (Eq.trans (mv_2 rfl) (Eq.trans (id_2 rfl) (Eq.trans (mv_1 rfl) (Eq.trans (id_1 rfl) (id_0 rfl))))))))))
                    have hP := wr_PF e9 hP
                    have hD := wr_DF e9 hD
                    clear e9
                    exact W.vret hx hb hr (fun t9_ ht hW => ⟨⟨(s292_3, p292_3, (vF 39), (vF 40), (vF 41), (vF 42), (vF 47), (vF 48), dB, wi), rfl, by (try dsimp only); exact ⟨by omega, Or.inl (by omega), fun _ _ => ⟨rfl, rfl, rfl, rfl, rfl⟩, by omega⟩, by rw [ht]; exact hP, hD⟩, hS.F ht⟩) hS.2.2 dX12_begin1_95
                  · refine lv_if_eq (tgt := 95) hx hb dX12_begin1_83 (by decide) (fun _ => ?_) (fun c9 => absurd (by decide) c9)
                    refine W.widen (k := 0) (n := 0) (by decide +kernel) (by decide +kernel) ?_
                    have e9 : fT (fT (fT (fT vi 75 (nI wi)) 74 (nI dB)) 21 s280_1) 22 p280_1 = fT (fT vi 21 s280_1) 22 p280_1 := Eq.trans (mv_3 rfl) (Eq.trans (congrArg (fT _ 75) (show nI wi = vi 75 from (by first | with_reducible rfl | with_reducible assumption | (symm; with_reducible assumption) | rfl | assumption | (symm; assumption) | (subst_vars; rfl)))) (Eq.trans (id_3 rfl) (Eq.trans (mv_2 rfl) (Eq.trans (congrArg (fT _ 74) (show nI dB = vi 74 from (by first | with_reducible rfl | with_reducible assumption | (symm; with_reducible assumption) | rfl | assumption | (symm; assumption) | (subst_vars; rfl)))) (id_2 rfl)))))
                    have hP := wr_Pi e9 hP
                    have hD := wr_Di e9 hD
                    clear e9
                    have e9 : fT (fT (fT (fT (fT (fT vF 39 (vF 39)) 40 (vF 40)) 41 (vF 41)) 42 (vF 42)) 47 (vF 47)) 48 (vF 48) = vF := Eq.trans (mv_5 rfl) (Eq.trans (id_5 rfl) (Eq.trans (mv_4 rfl) (Eq.trans (id_4 rfl) (Eq.trans (mv_3 rfl) (Eq.trans (id_3 rfl) (Eq.trans (mv_2 rfl) (Eq.trans (id_2 rfl) (Eq.trans (mv_1 rfl) (Eq.trans (id_1 rfl) (id_0 rfl))))))))))
                    have hP := wr_PF e9 hP
                    have hD := wr_DF e9 hD
                    clear e9
                    exact W.vret hx hb hr (fun t9_ ht hW => ⟨⟨(s280_1, p280_1, (vF 39), (vF 40), (vF 41), (vF 42), (vF 47), (vF 48), dB, wi), rfl, by (try dsimp only); exact ⟨by omega, Or.inl (by omega), fun _ _ => ⟨rfl, rfl, rfl, rfl, rfl⟩, by omega⟩, by rw [ht]; exact hP, hD⟩, hS.F ht⟩) hS.2.2 dX12_begin1_95
  · have t_4 : ¬ ((vi 21)).toInt ≤ 0 := toI_nle c_4 rfl (by decide)
    refine W.widen (k := 0) (n := 0) (by decide +kernel) (by decide +kernel) ?_
    have e9 : fT (fT (fT (fT vi 75 (nI wi)) 74 (nI dB)) 21 (vi 21)) 22 (vi 22) = vi := Eq.trans (mv_3 rfl) (Eq.trans (congrArg (fT _ 75) (show nI wi = vi 75 from (by first | with_reducible rfl | with_reducible assumption | (symm; with_reducible assumption) | rfl | assumption | (symm; assumption) | (subst_vars; rfl)))) (Eq.trans (id_3 rfl) (Eq.trans (mv_2 rfl) (Eq.trans (congrArg (fT _ 74) (show nI dB = vi 74 from (by first | with_reducible rfl | with_reducible assumption | (symm; with_reducible assumption) | rfl | assumption | (symm; assumption) | (subst_vars; rfl)))) (Eq.trans (id_2 rfl) (Eq.trans (mv_1 rfl) (Eq.trans (id_1 rfl) (id_0 rfl))))))))
    have hP := wr_Pi e9 hP
    have hD := wr_Di e9 hD
    clear e9
    have e9 : fT (fT (fT (fT (fT (fT vF 39 (vF 39)) 40 (vF 40)) 41 (vF 41)) 42 (vF 42)) 47 (vF 47)) 48 (vF 48) = vF := Eq.trans (mv_5 rfl) (Eq.trans (id_5 rfl) (Eq.trans (mv_4 rfl) (Eq.trans (id_4 rfl) (Eq.trans (mv_3 rfl) (Eq.trans (id_3 rfl) (Eq.trans (mv_2 rfl) (Eq.trans (id_2 rfl) (Eq.trans (mv_1 rfl) (Eq.trans (id_1 rfl) (id_0 rfl))))))))))
    have hP := wr_PF e9 hP
    have hD := wr_DF e9 hD
    clear e9
    exact W.vret hx hb hr (fun t9_ ht hW => ⟨⟨((vi 21), (vi 22), (vF 39), (vF 40), (vF 41), (vF 42), (vF 47), (vF 48), dB, wi), rfl, by (try dsimp only); exact ⟨hst0, Or.inl (by omega), fun _ _ => ⟨rfl, rfl, rfl, rfl, rfl⟩, by omega⟩, by rw [ht]; exact hP, hD⟩, hS.F ht⟩) hS.2.2 dX12_begin1_7
theorem dX12_closeSum_0 : decode cX12_closeSum 0 = .ok (.aload_n 0, 1) := dk_42 (by decide +kernel)
theorem dX12_closeSum_1 : decode cX12_closeSum 1 = .ok (.bipush 125, 2) := dk_16 (by decide +kernel)
theorem dX12_closeSum_3 : decode cX12_closeSum 3 = .ok (.invokevirtual 611, 3) := dk_182 (by decide +kernel)
theorem dX12_closeSum_6 : decode cX12_closeSum 6 = .ok (.ifCond .ne 4, 3) := dk_154 (by decide +kernel)
theorem dX12_closeSum_9 : decode cX12_closeSum 9 = .ok (.return_, 1) := dk_177 (by decide +kernel)
theorem dX12_closeSum_10 : decode cX12_closeSum 10 = .ok (.aload_n 0, 1) := dk_42 (by decide +kernel)
theorem dX12_closeSum_11 : decode cX12_closeSum 11 = .ok (.getfield 143, 3) := dk_180 (by decide +kernel)
theorem dX12_closeSum_14 : decode cX12_closeSum 14 = .ok (.iload_n 1, 1) := dk_27 (by decide +kernel)
theorem dX12_closeSum_15 : decode cX12_closeSum 15 = .ok (.bipush 6, 2) := dk_16 (by decide +kernel)
theorem dX12_closeSum_17 : decode cX12_closeSum 17 = .ok (.iastore, 1) := dk_79 (by decide +kernel)
theorem dX12_closeSum_18 : decode cX12_closeSum 18 = .ok (.aload_n 0, 1) := dk_42 (by decide +kernel)
theorem dX12_closeSum_19 : decode cX12_closeSum 19 = .ok (.iconst 1, 1) := dk_4 (by decide +kernel)
theorem dX12_closeSum_20 : decode cX12_closeSum 20 = .ok (.invokevirtual 586, 3) := dk_182 (by decide +kernel)
theorem dX12_closeSum_23 : decode cX12_closeSum 23 = .ok (.return_, 1) := dk_177 (by decide +kernel)
def wsRX12_closeSum : List Cond := .code yX12_closeSum cX12_closeSum 2 none :: ([.fieldLink RX12 143 "OptimaWorksModel" "step" "[I"] ++ wsX120 ++ (wsV RX12 611 RX12 yX12_needSign wsRX12_needSign) ++ (wsV RX12 586 RX12 yX12_begin1 wsRX12_begin1))
theorem iwsRX12_closeSum_in12 : ∀ w ∈ wsX120, w ∈ wsRX12_closeSum := fun _ h => List.mem_cons_of_mem _ (List.mem_append_left _ (List.mem_append_left _ (List.mem_append_right _ h)))
theorem gwsRX12_closeSum_0 : GoodIn wsRX12_closeSum (wsV RX12 611 RX12 yX12_needSign wsRX12_needSign) := goodIn_sub (fun _ h => List.mem_cons_of_mem _ (List.mem_append_left _ (List.mem_append_right _ h))) (gdV (by decide +kernel) gdwsRX12_needSign)
theorem gwsRX12_closeSum_1 : GoodIn wsRX12_closeSum (wsV RX12 586 RX12 yX12_begin1 wsRX12_begin1) := goodIn_sub (fun _ h => List.mem_cons_of_mem _ (List.mem_append_right _ h)) (gdV (by decide +kernel) gdwsRX12_begin1)
theorem gdwsRX12_closeSum : wsRX12_closeSum.all goodWord = true := gdC rfl (gdA (gdA (gdA (by decide +kernel : ([.fieldLink RX12 143 "OptimaWorksModel" "step" "[I"] : List Cond).all goodWord = true) gdwsX120) (gdV (by decide +kernel) gdwsRX12_needSign)) (gdV (by decide +kernel) gdwsRX12_begin1))
set_option maxHeartbeats 4000000 in
set_option maxRecDepth 100000 in
/-- closeSum(d) -/
theorem r_X12_closeSum (l : Launch) (dC : Nat → ClassId) (dI : Nat → Nat → Nat) (a : Nat → Nat) (k : Nat → ClassId) (h0 : Nat) (vi : Nat → Int32) (vj : Nat → Int64) (vF : Nat → Nat → Int32) (vG : Nat → Nat → Int64) (dN : Nat) (tp : Nat) (an : Nat) (fn : Nat) (nm : Nat) (se : Nat) (pa : Nat) (va : Nat) (bd : Nat) (wi : Nat) (hdN : dN < 119) (hTp : vi 16 = nI tp) (htp : tp ≤ 4000) (ha0 : vi 17 = nI an) (hfr : vi 19 = nI fn) (hLx : LxO tp fn an (vi 18) (vi 20)) (hst0 : 0 ≤ (vi 21).toInt) (hnm : vi 25 = nI nm) (hnm40 : nm ≤ 40) (hno : NmO (vF 11) (vF 12) nm) (hNk : NkO (vF 10) (vF 13) nm se pa va) (hbd : vi 30 = nI bd) (hbd60 : bd ≤ 60) (hbo : NmO (vF 14) (vF 15) 60) (hdp : vi 74 = nI (dN + 1)) (hwi : vi 75 = nI wi) (hwi9 : wi ≤ 25) (sz : Nat) : Met l yX12_closeSum wsRX12_closeSum ({ frames := 9, cells := 0, slots := 0, locals := 194 }) (va_Pc [.ref h0, .int (nI dN)] (fun U => U.heap.size = sz ∧ va_P (dC, dI) vwCl (WR a k h0 vi vj vF vG) U.heap ∧ va_K (dC, dI) vwCl (tX12 k) U ∧ va_D (fun _ => True) (WR a k h0 vi vj vF vG) ∧ StrA (va_A (WR a k h0 vi vj vF vG) sz) U U.heap)) (va_Qv (fun (u : (Nat) × (Nat) × (Int32) × (Int32) × (Int32) × (Int32) × (Nat → Int32) × (Nat → Int32) × (Nat → Int32) × (Nat → Int32) × (Nat → Int32) × (Nat → Int32) × (Nat) × (Nat)) => (LxO tp (u.2.1) (u.1) (u.2.2.2.1) (u.2.2.1)) ∧ (fn ≤ (u.2.1)) ∧ (0 ≤ ((u.2.2.2.2.1)).toInt) ∧ (0 < ((u.2.2.2.2.1)).toInt ∨ ((u.2.2.2.2.1) = 0 ∧ fn < (u.2.1) ∧ BgO 1 (u.2.2.2.1) (u.2.2.1) (u.2.2.2.2.2.2.1) (u.2.2.2.2.2.2.2.1) (u.2.2.2.2.2.2.2.2.1) (u.2.2.2.2.2.2.2.2.2.1) (u.2.2.2.2.2.2.2.2.2.2.2.1) (dN + 1) wi (u.2.2.2.2.2.2.2.2.2.2.2.2.1) (u.2.2.2.2.2.2.2.2.2.2.2.2.2) ∧ FrmO (dN + 1) (vF 39) (upd (vF 40) (nI dN).toNatClampNeg 6) (vF 41) (vF 42) (vF 48) (u.2.2.2.2.2.2.1) (u.2.2.2.2.2.2.2.1) (u.2.2.2.2.2.2.2.2.1) (u.2.2.2.2.2.2.2.2.2.1) (u.2.2.2.2.2.2.2.2.2.2.2.1))) ∧ ((u.2.2.2.2.2.2.2.2.2.2.2.2.1) ≤ dN + 2)) (fun (u : (Nat) × (Nat) × (Int32) × (Int32) × (Int32) × (Int32) × (Nat → Int32) × (Nat → Int32) × (Nat → Int32) × (Nat → Int32) × (Nat → Int32) × (Nat → Int32) × (Nat) × (Nat)) t => va_P (dC, dI) vwCl (WR a k h0 (fT (fT (fT (fT (fT (fT (fT (fT vi 17 (nI (u.1))) 19 (nI (u.2.1))) 20 (u.2.2.1)) 18 (u.2.2.2.1)) 21 (u.2.2.2.2.1)) 22 (u.2.2.2.2.2.1)) 75 (nI (u.2.2.2.2.2.2.2.2.2.2.2.2.2))) 74 (nI (u.2.2.2.2.2.2.2.2.2.2.2.2.1))) vj (fT (fT (fT (fT (fT (fT vF 40 (u.2.2.2.2.2.2.2.1)) 39 (u.2.2.2.2.2.2.1)) 41 (u.2.2.2.2.2.2.2.2.1)) 42 (u.2.2.2.2.2.2.2.2.2.1)) 47 (u.2.2.2.2.2.2.2.2.2.2.1)) 48 (u.2.2.2.2.2.2.2.2.2.2.2.1)) vG) t.heap ∧ va_D (va_A (WR a k h0 vi vj vF vG) sz) (WR a k h0 (fT (fT (fT (fT (fT (fT (fT (fT vi 17 (nI (u.1))) 19 (nI (u.2.1))) 20 (u.2.2.1)) 18 (u.2.2.2.1)) 21 (u.2.2.2.2.1)) 22 (u.2.2.2.2.2.1)) 75 (nI (u.2.2.2.2.2.2.2.2.2.2.2.2.2))) 74 (nI (u.2.2.2.2.2.2.2.2.2.2.2.2.1))) vj (fT (fT (fT (fT (fT (fT vF 40 (u.2.2.2.2.2.2.2.1)) 39 (u.2.2.2.2.2.2.1)) 41 (u.2.2.2.2.2.2.2.2.1)) 42 (u.2.2.2.2.2.2.2.2.2.1)) 47 (u.2.2.2.2.2.2.2.2.2.2.1)) 48 (u.2.2.2.2.2.2.2.2.2.2.2.1)) vG)) (va_A (WR a k h0 vi vj vF vG) sz)) 0 0 (va_A (WR a k h0 vi vj vF vG) sz) := by
  refine Met.ofW (cc := cX12_closeSum) (maxL := 2) (ret := none) (by decide) rfl ?_
  intro p e s m args below meth c s₁ B hml hv
  obtain ⟨rfl, hsz, hP, hK, hD0, hE⟩ := hv
  have hx := B.exec
  have hb := B.bytes
  have hr := B.returns
  have hts := atoms_spec (ws := wsRX12_closeSum) B.pre
  have hown : s.vm.findClass RX12 = some m.cls := findClass_of_methodNamed B.named
  have hlocks := B.notSynchronized
  subst hsz
  have hD := hD0.self (sz := s.heap.size)
  generalize hAe : va_A (WR a k h0 vi vj vF vG) s.heap.size = A at hD hE ⊢
  have hA : ∀ q : Nat, s.heap.size ≤ q → A q := fun q h => by rw [← hAe]; exact Or.inr h
  have hS : va_S A s.heap s.heap [] := va_S.rf
  have hl := lv_entry ([.ref h0, .int (nI dN)]) (n := 2) (Nat.le_of_ble_eq_true rfl)
  rw [lg_entry_eq]
  generalize (lg_sl ([.ref h0, .int (nI dN)]) ++ List.replicate (2 - (lg_sl ([.ref h0, .int (nI dN)])).length) Slot.unset).toArray = ls at hl ⊢
  have hl : lv_has ls 2 [(0, .ref h0), (1, .int (nI dN))] := hl
  have hfa := hLx.1
  have han := hLx.2.1
  have han4 : an ≤ 4000 := by omega
  refine lv_aload_n hx hb dX12_closeSum_0 rfl (lv_at hl 0 rfl) ?_
  refine lv_bipush (v := 125) hx hb dX12_closeSum_1 (by decide) ?_
  have hFc := allFree hD hS hA
  refine va_calli (va_runV (As := [.int 125]) (rest := []) ⟨hx, hb, hml, hown, hts⟩ (r_X12_needSign l dC dI a k h0 vi vj vF vG 125 tp an fn hTp (by first | with_reducible assumption | decide | omega | rfl | assumption) ha0 hfr (by first | with_reducible assumption | decide | omega | rfl | assumption) (by first | with_reducible assumption | decide | omega | rfl | assumption) s.heap.size) (cwV 1 hts gwsRX12_closeSum_0 rfl rfl rfl hd_yX12_needSign_RX12 (by decide +kernel)) (fz_preE (va_recv hK hP (ci := 12) (q0 := 0) rfl rfl) hP hK hD (fun a U g mk qE => qE.same rfl) (fun U hU9 hW => by rw [hU9]; exact (((hE : StrA A s s.heap).kept hS.2.1).narrow (fun q h => hFc q h)).warm hW)) rfl rfl hl.1 rfl (lv_room (Nat.le_of_ble_eq_true rfl)) dX12_closeSum_3 (by decide +kernel)) hS (fun q _ h => hFc q h) hFc (fun r3 u t9_ H locs ht hvm hw9 hB9 hz1 hk1 hS => ?_)
  revert u hw9 hB9
  refine fz_p6 ?_
  intro a23 f23 sg3 wd3 s23 p23 hw9 hB9
  try dsimp only at hw9 hB9
  have hP : va_P (dC, dI) vwCl (WR a k h0 (fT (fT (fT (fT (fT (fT vi 17 (nI a23)) 19 (nI f23)) 20 sg3) 18 wd3) 21 s23) 22 p23) vj vF vG) H := fz_P ht hB9.1
  have hD := fz_sd hP (hB9.2.weaken (fun _ q _ h => hFc q.1 h)) rfl
  rcases hw9 with ⟨rfl, f3_0, f3_1, f3_2, f3_3⟩ | ⟨rfl, f3_0, f3_1, f3_2⟩
  · have f3_3 : (vi 21) = 0 := f3_3
    refine lv_if_ne (tgt := 10) hx hb dX12_closeSum_6 (by decide) (fun _ => ?_) (fun c9 => absurd c9 (by decide))
    refine lv_aload_n hx hb dX12_closeSum_10 rfl (lv_at hl 0 rfl) ?_
    refine va_get (D := (dC, dI)) (ci := 12) (v := .ref (a 40)) (C := RX12) (T := TX12) (N := 163) (fs := fM (vS a (fT (fT (fT (fT (fT (fT vi 17 (nI a23)) 19 (nI f23)) 20 sg3) 18 wd3) 21 s23) 22 p23) vj)) hx hb hts iwsRX12_closeSum_in12 hown hK hP 0 rfl rfl 65 (by decide) (hts (.fieldLink RX12 143 "OptimaWorksModel" "step" "[I") (by decide +kernel)) (fun _ h9 => h9) rfl dX12_closeSum_11 ?_
    refine lv_iload_n hx hb dX12_closeSum_14 rfl (lv_at hl 1 rfl) ?_
    refine lv_bipush (v := 6) hx hb dX12_closeSum_15 (by decide) ?_
    refine va_iast (cA := k 40) (n := 120) (f := (vF 40)) hx hb hK hP hD hS 41 40 (WR_get 40 (by decide)) (TR_get 40 (by decide)) (vp_in_nI (show dN < 120 by omega) (by omega)) dX12_closeSum_17 (fun H locs hP hD hS => ?_)
    have hP : va_P (dC, dI) vwCl (WR a k h0 (fT (fT (fT (fT (fT (fT vi 17 (nI a23)) 19 (nI f23)) 20 sg3) 18 wd3) 21 s23) 22 p23) vj (fT vF 40 (upd (vF 40) ((nI dN)).toNatClampNeg 6)) vG) H := fz_w (WR_F 40 (by decide) _ rfl) hP
    have hD : va_D A (WR a k h0 (fT (fT (fT (fT (fT (fT vi 17 (nI a23)) 19 (nI f23)) 20 sg3) 18 wd3) 21 s23) 22 p23) vj (fT vF 40 (upd (vF 40) ((nI dN)).toNatClampNeg 6)) vG) := fz_wD (WR_F 40 (by decide) _ rfl) hD
    refine lv_aload_n hx hb dX12_closeSum_18 rfl (lv_at hl 0 rfl) ?_
    refine lv_iconst (v := 1) hx hb dX12_closeSum_19 (by decide) ?_
    have hFc := allFree hD hS hA
    refine va_callv (va_runV (As := [.int 1]) (rest := []) ⟨hx, hb, hml, hown, hts⟩ (r_X12_begin1 l dC dI a k h0 (fT (fT (fT (fT (fT (fT vi 17 (nI a23)) 19 (nI f23)) 20 sg3) 18 wd3) 21 s23) 22 p23) vj (fT vF 40 (upd (vF 40) ((nI dN)).toNatClampNeg 6)) vG 1 tp a23 f23 nm se pa va bd (dN + 1) wi hTp (by first | with_reducible assumption | decide | omega | rfl | assumption) rfl rfl (f3_1) ((show 0 ≤ (s23).toInt by rw [f3_0]; decide)) hnm (by first | with_reducible assumption | decide | omega | rfl | assumption) (by first | with_reducible assumption | decide | omega | rfl | assumption) (by first | with_reducible assumption | decide | omega | rfl | assumption) hbd (by first | with_reducible assumption | decide | omega | rfl | assumption) (by first | with_reducible assumption | decide | omega | rfl | assumption) (hdp) (by first | with_reducible assumption | decide | omega | rfl | assumption) hwi (by first | with_reducible assumption | decide | omega | rfl | assumption) H.size) (cwV 1 hts gwsRX12_closeSum_1 rfl rfl rfl hd_yX12_begin1_RX12 (by decide +kernel)) (fz_pre (va_recv hK hP (ci := 12) (q0 := 0) rfl rfl) hP hK hD) rfl rfl hl.1 rfl (lv_room (Nat.le_of_ble_eq_true rfl)) dX12_closeSum_20 (by decide +kernel)) hS (fun q _ h => hFc q h) hFc (fun u t9_ H locs ht hvm hw9 hB9 hz1 hk1 hS => ?_)
    revert u hw9 hB9
    refine fz_p10 ?_
    intro s220 p220 g3920 g4020 g4120 g4220 g4720 g4820 d220 w220 hw9 hB9
    try dsimp only at hw9 hB9
    have e9i : fT (fT (fT (fT (fT (fT (fT (fT vi 17 (nI a23)) 19 (nI f23)) 20 sg3) 18 wd3) 21 s220) 22 p220) 75 (nI w220)) 74 (nI d220) = fT (fT (fT (fT (fT (fT (fT (fT (fT (fT vi 17 (nI a23)) 19 (nI f23)) 20 sg3) 18 wd3) 21 s23) 22 p23) 75 (nI w220)) 74 (nI d220)) 21 s220) 22 p220 := Eq.symm (Eq.trans (congrArg (fun g9 => fT g9 22 p220) (up_3 rfl)) (up_2 rfl))
    have e9F : fT (fT (fT (fT (fT (fT vF 40 g4020) 39 g3920) 41 g4120) 42 g4220) 47 g4720) 48 g4820 = fT (fT (fT (fT (fT (fT (fT vF 40 (upd (vF 40) ((nI dN)).toNatClampNeg 6)) 39 g3920) 40 g4020) 41 g4120) 42 g4220) 47 g4720) 48 g4820 := (congrArg (fun g9 => fT (fT (fT (fT g9 41 g4120) 42 g4220) 47 g4720) 48 g4820) ((fT_sw _ _ _ (Nat.ne_of_beq_eq_false rfl)).trans (congrArg (fun g9 => fT g9 39 g3920) (fT_sm _ _ _ _)))).symm
    have hP := wr_PF e9F (wr_Pi e9i (fz_P ht hB9.1))
    have hD := wr_DF e9F (wr_Di e9i (hB9.2.weaken (fun _ q _ h => hFc q.1 h)))
    clear e9i e9F
    revert hw9
    refine fz_a4 ?_
    intro f20_0 f20_1 f20_2 f20_3
    have f20_1 : 0 < (s220).toInt ∨ (s220 = s23 ∧ BgO 1 wd3 sg3 g3920 g4020 g4120 g4220 g4820 (dN + 1) wi d220 w220) := f20_1
    have f20_2 : FrmO (dN + 1) (vF 39) (upd (vF 40) ((nI dN)).toNatClampNeg 6) (vF 41) (vF 42) (vF 48) g3920 g4020 g4120 g4220 g4820 := f20_2
    refine W.widen (k := 0) (n := 0) (by decide +kernel) (by decide +kernel) ?_
    exact W.vret hx hb hr (fun t9_ ht hW => ⟨⟨(a23, f23, sg3, wd3, s220, p220, g3920, g4020, g4120, g4220, g4720, g4820, d220, w220), rfl, by (try dsimp only); exact ⟨f3_1, by omega, f20_0, by rcases f20_1 with h9 | h9; (exact Or.inl h9); (exact Or.inr ⟨h9.1.trans f3_0, by omega, h9.2, f20_2⟩), by omega⟩, by rw [ht]; exact hP, hD⟩, hS.F ht⟩) hS.2.2 dX12_closeSum_23
  · refine lv_if_ne (tgt := 10) hx hb dX12_closeSum_6 (by decide) (fun c9 => absurd c9 (by decide)) (fun _ => ?_)
    refine W.widen (k := 0) (n := 0) (by decide +kernel) (by decide +kernel) ?_
    have e9 : fT (fT (fT (fT (fT (fT (fT (fT vi 17 (nI a23)) 19 (nI f23)) 20 sg3) 18 wd3) 21 s23) 22 p23) 75 (nI wi)) 74 (nI (dN + 1)) = fT (fT (fT (fT (fT (fT vi 17 (nI a23)) 19 (nI f23)) 20 sg3) 18 wd3) 21 s23) 22 p23 := Eq.trans (mv_1 rfl) (Eq.trans (congrArg (fT _ 75) (show nI wi = vi 75 from (by first | with_reducible rfl | with_reducible assumption | (symm; with_reducible assumption) | rfl | assumption | (symm; assumption) | (subst_vars; rfl)))) (Eq.trans (id_7 rfl) (Eq.trans (congrArg (fT _ 74) (show nI (dN + 1) = vi 74 from (by first | with_reducible rfl | with_reducible assumption | (symm; with_reducible assumption) | rfl | assumption | (symm; assumption) | (subst_vars; rfl)))) (id_6 rfl))))
    have hP := wr_Pi e9 hP
    have hD := wr_Di e9 hD
    clear e9
    have e9 : fT (fT (fT (fT (fT (fT vF 40 (vF 40)) 39 (vF 39)) 41 (vF 41)) 42 (vF 42)) 47 (vF 47)) 48 (vF 48) = vF := Eq.trans (mv_5 rfl) (Eq.trans (id_5 rfl) (Eq.trans (mv_4 rfl) (Eq.trans (id_4 rfl) (Eq.trans (mv_3 rfl) (Eq.trans (id_3 rfl) (Eq.trans (mv_2 rfl) (Eq.trans (id_2 rfl) (Eq.trans (mv_1 rfl) (Eq.trans (id_1 rfl) (id_0 rfl))))))))))
    have hP := wr_PF e9 hP
    have hD := wr_DF e9 hD
    clear e9
    exact W.vret hx hb hr (fun t9_ ht hW => ⟨⟨(a23, f23, sg3, wd3, s23, p23, (vF 39), (vF 40), (vF 41), (vF 42), (vF 47), (vF 48), (dN + 1), wi), rfl, by (try dsimp only); exact ⟨f3_1, by omega, by omega, Or.inl f3_0, by omega⟩, by rw [ht]; exact hP, hD⟩, hS.F ht⟩) hS.2.2 dX12_closeSum_9
end
section
/-- the nodes' part of the reader's state, against an earlier one -/
def RdK (T : Nat → Nat → Int32) (G : RG) (f29 f30 f31 f32 f36 f37 f38 : Nat → Int32) (G' : RG) (g29 g30 g31 g32 g36 g37 g38 : Nat → Int32) (se nd bs gl : Nat) : Prop := RdV T G' g29 g30 g31 g32 g36 g37 g38 se nd bs ∧ Ext gl bs G f29 f30 f31 f32 f36 f37 f38 G' g29 g30 g31 g32 g36 g37 g38 ∧ (∀ q, G.V q → q < nd) ∧ gl ≤ nd
theorem RdK.first {T : Nat → Nat → Int32} {G : RG} {f29 f30 f31 f32 f36 f37 f38 : Nat → Int32} {se nd bs gl : Nat} (h : RdV T G f29 f30 f31 f32 f36 f37 f38 se nd bs) (hg : gl ≤ nd) : RdK T G f29 f30 f31 f32 f36 f37 f38 G f29 f30 f31 f32 f36 f37 f38 se nd bs gl := ⟨h, Ext.refl (), fun q hq => (h.2.1 q hq).1, hg⟩
theorem LinO.node {G : RG} {g29 : Nat → Int32} {nd c P : Nat} {kv : Int32} (h : LinO G g29 c P) (hc : c < nd) (h4 : nd < 4000) : LinO G (upd g29 (nI nd).toNatClampNeg kv) c P := ⟨h.1, by rw [upd_at (by omega), if_neg (by omega)]; exact h.2.1, h.2.2⟩
theorem TruO.node {G : RG} {g29 : Nat → Int32} {nd c P : Nat} {kv : Int32} (h : TruO G g29 c P) (hc : c < nd) (h4 : nd < 4000) : TruO G (upd g29 (nI nd).toNatClampNeg kv) c P := ⟨h.1, by rw [upd_at (by omega), if_neg (by omega)]; exact h.2.1, h.2.2⟩
theorem RdK.node {T : Nat → Nat → Int32} {G G' : RG} {f29 f30 f31 f32 f36 f37 f38 g29 g30 g31 g32 g36 g37 g38 : Nat → Int32} {se nd bs gl : Nat} {kv av bv cv : Int32} (h : RdK T G f29 f30 f31 f32 f36 f37 f38 G' g29 g30 g31 g32 g36 g37 g38 se nd bs gl) (h4 : nd < 4000) : RdK T G f29 f30 f31 f32 f36 f37 f38 G' (upd g29 (nI nd).toNatClampNeg kv) (upd g30 (nI nd).toNatClampNeg av) (upd g31 (nI nd).toNatClampNeg bv) (upd g32 (nI nd).toNatClampNeg cv) g36 g37 g38 se (nd + 1) bs gl :=
  ⟨h.1.node (by omega), h.2.1.node h.2.2.2 (by omega) h.2.2.1, fun q hq => Nat.lt_succ_of_lt (h.2.2.1 q hq), Nat.le_succ_of_le h.2.2.2⟩
theorem RdK.nv {T : Nat → Nat → Int32} {G G' : RG} {f29 f30 f31 f32 f36 f37 f38 g29 g30 g31 g32 g36 g37 g38 : Nat → Int32} {se nd bs gl : Nat} (h : RdK T G f29 f30 f31 f32 f36 f37 f38 G' g29 g30 g31 g32 g36 g37 g38 se nd bs gl) : ¬ G'.V nd := fun q => absurd (h.1.2.1 nd q).1 (Nat.lt_irrefl _)
theorem RdK.nv0 {T : Nat → Nat → Int32} {G G' : RG} {f29 f30 f31 f32 f36 f37 f38 g29 g30 g31 g32 g36 g37 g38 : Nat → Int32} {se nd bs gl : Nat} (h : RdK T G f29 f30 f31 f32 f36 f37 f38 G' g29 g30 g31 g32 g36 g37 g38 se nd bs gl) : ¬ G.V nd := fun q => absurd (h.2.2.1 nd q) (Nat.lt_irrefl _)
theorem u_at {f : Nat → Int32} {n : Nat} {v w : Int32} (h4 : n < 4000) (e : v = w) : (upd f (nI n).toNatClampNeg v) n = w := by rw [upd_at (by omega), if_pos rfl]; exact e
theorem RdK.mkNum {T : Nat → Nat → Int32} {G G' : RG} {f29 f30 f31 f32 f36 f37 f38 g29 g30 g31 g32 g36 g37 g38 : Nat → Int32} {se nd bs gl : Nat} {kv av bv cv : Int32} {p : Nat} (h : RdK T G f29 f30 f31 f32 f36 f37 f38 G' g29 g30 g31 g32 g36 g37 g38 se nd bs gl) (h4 : nd < 4000) (hk : kv = nI 0) (hp : 1 ≤ p) (ha : -1000200 ≤ av.toInt ∧ av.toInt ≤ 1000200) : RdK T G f29 f30 f31 f32 f36 f37 f38 (G'.add nd 0 p 0) (upd g29 (nI nd).toNatClampNeg kv) (upd g30 (nI nd).toNatClampNeg av) (upd g31 (nI nd).toNatClampNeg bv) (upd g32 (nI nd).toNatClampNeg cv) g36 g37 g38 se (nd + 1) bs gl ∧ LinO (G'.add nd 0 p 0) (upd g29 (nI nd).toNatClampNeg kv) nd p := by
  have h1 := h.node (kv := kv) (av := av) (bv := bv) (cv := cv) h4
  have hv := h.nv
  have hk9 : (upd g29 (nI nd).toNatClampNeg kv) nd = kv := u_at h4 rfl
  exact ⟨⟨h1.1.num hv (Nat.lt_succ_self _) h4 (hk9.trans hk) hp (by rw [u_at h4 rfl]; exact ha), h1.2.1.add h.2.2.2 h.nv0, h1.2.2.1, h1.2.2.2⟩, LinO.new (hk9.trans hk) (by omega)⟩
theorem RdK.mkBnd {T : Nat → Nat → Int32} {G G' : RG} {f29 f30 f31 f32 f36 f37 f38 g29 g30 g31 g32 g36 g37 g38 : Nat → Int32} {se nd bs gl : Nat} {kv av bv cv : Int32} {p : Nat} (h : RdK T G f29 f30 f31 f32 f36 f37 f38 G' g29 g30 g31 g32 g36 g37 g38 se nd bs gl) (h4 : nd < 4000) {x : Nat} (hk : kv = nI 1) (hp : 1 ≤ p) (hx : x < 60) (ha : av = nI x) : RdK T G f29 f30 f31 f32 f36 f37 f38 (G'.add nd 0 p 0) (upd g29 (nI nd).toNatClampNeg kv) (upd g30 (nI nd).toNatClampNeg av) (upd g31 (nI nd).toNatClampNeg bv) (upd g32 (nI nd).toNatClampNeg cv) g36 g37 g38 se (nd + 1) bs gl ∧ LinO (G'.add nd 0 p 0) (upd g29 (nI nd).toNatClampNeg kv) nd p := by
  have h1 := h.node (kv := kv) (av := av) (bv := bv) (cv := cv) h4
  have hv := h.nv
  have hk9 : (upd g29 (nI nd).toNatClampNeg kv) nd = kv := u_at h4 rfl
  exact ⟨⟨h1.1.bnd hv (Nat.lt_succ_self _) h4 (hk9.trans hk) hp hx (u_at h4 ha), h1.2.1.add h.2.2.2 h.nv0, h1.2.2.1, h1.2.2.2⟩, LinO.new (hk9.trans hk) (by omega)⟩
theorem RdK.mkTurn {T : Nat → Nat → Int32} {G G' : RG} {f29 f30 f31 f32 f36 f37 f38 g29 g30 g31 g32 g36 g37 g38 : Nat → Int32} {se nd bs gl : Nat} {kv av bv cv : Int32} {p : Nat} (h : RdK T G f29 f30 f31 f32 f36 f37 f38 G' g29 g30 g31 g32 g36 g37 g38 se nd bs gl) (h4 : nd < 4000) {c P : Nat} (hk : kv = nI 4) (hp : 1 ≤ p) (ha : av = nI c) (hc : LinO G' g29 c P) (hP : P ≤ p) : RdK T G f29 f30 f31 f32 f36 f37 f38 (G'.add nd (G'.wt c + 3) p 0) (upd g29 (nI nd).toNatClampNeg kv) (upd g30 (nI nd).toNatClampNeg av) (upd g31 (nI nd).toNatClampNeg bv) (upd g32 (nI nd).toNatClampNeg cv) g36 g37 g38 se (nd + 1) bs gl ∧ LinO (G'.add nd (G'.wt c + 3) p 0) (upd g29 (nI nd).toNatClampNeg kv) nd p := by
  have h1 := h.node (kv := kv) (av := av) (bv := bv) (cv := cv) h4
  have hv := h.nv
  have hk9 : (upd g29 (nI nd).toNatClampNeg kv) nd = kv := u_at h4 rfl
  exact ⟨⟨h1.1.turn hv (Nat.lt_succ_self _) h4 (hk9.trans hk) hp (u_at h4 ha) (hc.node (h.1.2.1 c hc.1).1 h4) hP, h1.2.1.add h.2.2.2 h.nv0, h1.2.2.1, h1.2.2.2⟩, LinO.new (hk9.trans hk) (by omega)⟩
theorem RdK.mkPair {T : Nat → Nat → Int32} {G G' : RG} {f29 f30 f31 f32 f36 f37 f38 g29 g30 g31 g32 g36 g37 g38 : Nat → Int32} {se nd bs gl : Nat} {kv av bv cv : Int32} {p : Nat} (h : RdK T G f29 f30 f31 f32 f36 f37 f38 G' g29 g30 g31 g32 g36 g37 g38 se nd bs gl) (h4 : nd < 4000) {k c d P Q : Nat} (hk : kv = nI k) (hkk : 5 ≤ k ∧ k ≤ 8) (ha : av = nI c) (hb : bv = nI d) (hc : LinO G' g29 c P) (hd : LinO G' g29 d Q) (hp : 2 ≤ p) (hP : P ≤ p) (hQ : Q + 1 ≤ p) : RdK T G f29 f30 f31 f32 f36 f37 f38 (G'.add nd (G'.wt c + G'.wt d + 3) p 0) (upd g29 (nI nd).toNatClampNeg kv) (upd g30 (nI nd).toNatClampNeg av) (upd g31 (nI nd).toNatClampNeg bv) (upd g32 (nI nd).toNatClampNeg cv) g36 g37 g38 se (nd + 1) bs gl ∧ LinO (G'.add nd (G'.wt c + G'.wt d + 3) p 0) (upd g29 (nI nd).toNatClampNeg kv) nd p := by
  have h1 := h.node (kv := kv) (av := av) (bv := bv) (cv := cv) h4
  have hv := h.nv
  have hk9 : (upd g29 (nI nd).toNatClampNeg kv) nd = kv := u_at h4 rfl
  exact ⟨⟨h1.1.pair hv (Nat.lt_succ_self _) h4 (hk9.trans hk) (Or.inl hkk) (u_at h4 ha) (u_at h4 hb) (hc.node (h.1.2.1 c hc.1).1 h4) (hd.node (h.1.2.1 d hd.1).1 h4) hp hP hQ, h1.2.1.add h.2.2.2 h.nv0, h1.2.2.1, h1.2.2.2⟩, LinO.new (hk9.trans hk) (by omega)⟩
theorem RdK.mkComp {T : Nat → Nat → Int32} {G G' : RG} {f29 f30 f31 f32 f36 f37 f38 g29 g30 g31 g32 g36 g37 g38 : Nat → Int32} {se nd bs gl : Nat} {kv av bv cv : Int32} {p : Nat} (h : RdK T G f29 f30 f31 f32 f36 f37 f38 G' g29 g30 g31 g32 g36 g37 g38 se nd bs gl) (h4 : nd < 4000) {c d P Q : Nat} (hk : kv = nI 13) (ha : av = nI c) (hb : bv = nI d) (hc : LinO G' g29 c P) (hd : LinO G' g29 d Q) (hp : 2 ≤ p) (hP : P ≤ p) (hQ : Q + 1 ≤ p) : RdK T G f29 f30 f31 f32 f36 f37 f38 (G'.add nd (G'.wt c + G'.wt d + 3) p 0) (upd g29 (nI nd).toNatClampNeg kv) (upd g30 (nI nd).toNatClampNeg av) (upd g31 (nI nd).toNatClampNeg bv) (upd g32 (nI nd).toNatClampNeg cv) g36 g37 g38 se (nd + 1) bs gl ∧ TruO (G'.add nd (G'.wt c + G'.wt d + 3) p 0) (upd g29 (nI nd).toNatClampNeg kv) nd p := by
  have h1 := h.node (kv := kv) (av := av) (bv := bv) (cv := cv) h4
  have hv := h.nv
  have hk9 : (upd g29 (nI nd).toNatClampNeg kv) nd = kv := u_at h4 rfl
  exact ⟨⟨h1.1.pair hv (Nat.lt_succ_self _) h4 (hk9.trans hk) (Or.inr rfl) (u_at h4 ha) (u_at h4 hb) (hc.node (h.1.2.1 c hc.1).1 h4) (hd.node (h.1.2.1 d hd.1).1 h4) hp hP hQ, h1.2.1.add h.2.2.2 h.nv0, h1.2.2.1, h1.2.2.2⟩, TruO.new (hk9.trans hk) (by omega) (by omega)⟩
theorem RdK.mkJoin {T : Nat → Nat → Int32} {G G' : RG} {f29 f30 f31 f32 f36 f37 f38 g29 g30 g31 g32 g36 g37 g38 : Nat → Int32} {se nd bs gl : Nat} {kv av bv cv : Int32} {p : Nat} (h : RdK T G f29 f30 f31 f32 f36 f37 f38 G' g29 g30 g31 g32 g36 g37 g38 se nd bs gl) (h4 : nd < 4000) {k c d P Q : Nat} (hk : kv = nI k) (hkk : k = 10 ∨ k = 11) (ha : av = nI c) (hb : bv = nI d) (hc : TruO G' g29 c P) (hd : TruO G' g29 d Q) (hP : P ≤ p) (hQ : Q ≤ p) : RdK T G f29 f30 f31 f32 f36 f37 f38 (G'.add nd (G'.wt c + G'.wt d + 3) p 0) (upd g29 (nI nd).toNatClampNeg kv) (upd g30 (nI nd).toNatClampNeg av) (upd g31 (nI nd).toNatClampNeg bv) (upd g32 (nI nd).toNatClampNeg cv) g36 g37 g38 se (nd + 1) bs gl ∧ TruO (G'.add nd (G'.wt c + G'.wt d + 3) p 0) (upd g29 (nI nd).toNatClampNeg kv) nd p := by
  have h1 := h.node (kv := kv) (av := av) (bv := bv) (cv := cv) h4
  have hv := h.nv
  have hk9 : (upd g29 (nI nd).toNatClampNeg kv) nd = kv := u_at h4 rfl
  exact ⟨⟨h1.1.join hv (Nat.lt_succ_self _) h4 (hk9.trans hk) hkk (u_at h4 ha) (u_at h4 hb) (hc.node (h.1.2.1 c hc.1).1 h4) (hd.node (h.1.2.1 d hd.1).1 h4) hP hQ, h1.2.1.add h.2.2.2 h.nv0, h1.2.2.1, h1.2.2.2⟩, TruO.new (hk9.trans hk) (by omega) (by omega)⟩
theorem RdK.mkNot {T : Nat → Nat → Int32} {G G' : RG} {f29 f30 f31 f32 f36 f37 f38 g29 g30 g31 g32 g36 g37 g38 : Nat → Int32} {se nd bs gl : Nat} {kv av bv cv : Int32} {p : Nat} (h : RdK T G f29 f30 f31 f32 f36 f37 f38 G' g29 g30 g31 g32 g36 g37 g38 se nd bs gl) (h4 : nd < 4000) {c P : Nat} (hk : kv = nI 12) (ha : av = nI c) (hc : TruO G' g29 c P) (hP : P ≤ p) : RdK T G f29 f30 f31 f32 f36 f37 f38 (G'.add nd (G'.wt c + 3) p 0) (upd g29 (nI nd).toNatClampNeg kv) (upd g30 (nI nd).toNatClampNeg av) (upd g31 (nI nd).toNatClampNeg bv) (upd g32 (nI nd).toNatClampNeg cv) g36 g37 g38 se (nd + 1) bs gl ∧ TruO (G'.add nd (G'.wt c + 3) p 0) (upd g29 (nI nd).toNatClampNeg kv) nd p := by
  have h1 := h.node (kv := kv) (av := av) (bv := bv) (cv := cv) h4
  have hv := h.nv
  have hk9 : (upd g29 (nI nd).toNatClampNeg kv) nd = kv := u_at h4 rfl
  exact ⟨⟨h1.1.not hv (Nat.lt_succ_self _) h4 (hk9.trans hk) (u_at h4 ha) (hc.node (h.1.2.1 c hc.1).1 h4) hP, h1.2.1.add h.2.2.2 h.nv0, h1.2.2.1, h1.2.2.2⟩, TruO.new (hk9.trans hk) (by omega) (by omega)⟩
theorem RdK.mkName {T : Nat → Nat → Int32} {G G' : RG} {f29 f30 f31 f32 f36 f37 f38 g29 g30 g31 g32 g36 g37 g38 : Nat → Int32} {se nd bs gl : Nat} {kv av bv cv : Int32} {p : Nat} (h : RdK T G f29 f30 f31 f32 f36 f37 f38 G' g29 g30 g31 g32 g36 g37 g38 se nd bs gl) (h4 : nd < 4000) {k a pl o1 o2 aT : Nat} (hkk : k = 2 ∨ k = 3) (hk : kv = nI k) (ha : av = nI a ∧ a < 44) (hS : NamS T se k a pl o1 o2 aT) (hp : 1 ≤ p) (h0 : pl = 0) (hb : bv = -1) (hc : cv = -1) : RdK T G f29 f30 f31 f32 f36 f37 f38 (G'.add nd 0 p 0) (upd g29 (nI nd).toNatClampNeg kv) (upd g30 (nI nd).toNatClampNeg av) (upd g31 (nI nd).toNatClampNeg bv) (upd g32 (nI nd).toNatClampNeg cv) g36 g37 g38 se (nd + 1) bs gl ∧ LinO (G'.add nd 0 p 0) (upd g29 (nI nd).toNatClampNeg kv) nd p := by
  have h1 := h.node (kv := kv) (av := av) (bv := bv) (cv := cv) h4
  have hv := h.nv
  have hk9 : (upd g29 (nI nd).toNatClampNeg kv) nd = kv := u_at h4 rfl
  exact ⟨⟨h1.1.name0 hv (Nat.lt_succ_self _) h4 hkk (hk9.trans hk) ⟨u_at h4 ha.1, ha.2⟩ hS hp h0 (u_at h4 hb) (u_at h4 hc), h1.2.1.add h.2.2.2 h.nv0, h1.2.2.1, h1.2.2.2⟩, LinO.new (hk9.trans hk) (by omega)⟩
/-- what the uppermost frame knows, kind by kind -/
theorem RTp.linear {T : Nat → Nat → Int32} {G : RG} {f29 f30 f31 f32 f36 f37 f38 f40 f41 f42 : Nat → Int32} {wd sg res : Int32} {se bs i w u ex gl gm p1 n1 m1 tw : Nat} (h : RTp T G f29 f30 f31 f32 f36 f37 f38 f40 f41 f42 wd sg res se bs i 0 w u ex gl gm p1 n1 m1 tw) :
    (f40 i = 0 ∧ f41 i = -1 ∧ f42 i = -1 ∧ p1 = 0 ∧ n1 = 0 ∧ m1 = 0 ∧ gm = gl ∧ ex = 1 ∧ tw = 3) ∨ (f40 i = 1 ∧ n1 = 0 ∧ m1 = 0 ∧ gl ≤ gm ∧ ex = 1 ∧ tw = 1 ∧ ∃ a b c, OpL G f29 (f41 i) (51 - 2 * w) a ∧ OpL G f29 (f42 i) (50 - 2 * w) b ∧ p1 = a + b ∧ res = nI c ∧ w ≤ 24 ∧ LinO G f29 c (49 - 2 * w)) := by
  rcases h with ⟨h1, h2, h3, ⟨a1, a2, a3, a4⟩, ⟨_, a5⟩, _, h4⟩ | ⟨h1, ck, ⟨⟨_, b1, _, b2⟩, h2⟩, c, h3, h4⟩
  · exact Or.inl ⟨h1, h2, h3, a1, a2, a3, a4, a5 (by decide), by omega⟩
  · rcases h2 with ⟨_, d1, d2, d3, d4, a, b, d5, d6, d7⟩ | h | h | h | h | h | h | h | h | h | h | h
    · rcases h4 with ⟨e1, e2, e3⟩ | h4 | h4
      · exact Or.inr ⟨d2, d3, d4, b2, b1 (by decide), h1, a, b, c, d5, d6, d7, h3, e2, e3⟩
      · exact absurd h4.1 (by omega)
      · exact absurd h4.1 (by omega)
    all_goals exact absurd h.1 (by decide)
theorem RTp.truth {T : Nat → Nat → Int32} {G : RG} {f29 f30 f31 f32 f36 f37 f38 f40 f41 f42 : Nat → Int32} {wd sg res : Int32} {se bs i w u ex gl gm p1 n1 m1 tw : Nat} (h : RTp T G f29 f30 f31 f32 f36 f37 f38 f40 f41 f42 wd sg res se bs i 2 w u ex gl gm p1 n1 m1 tw) :
    (f40 i = 0 ∧ f41 i = -1 ∧ f42 i = -1 ∧ p1 = 0 ∧ n1 = 0 ∧ m1 = 0 ∧ gm = gl ∧ ex = 1 ∧ tw = 7) ∨ (f40 i = 1 ∧ n1 = 0 ∧ m1 = 0 ∧ gl ≤ gm ∧ ex = 1 ∧ tw = 1 ∧ ∃ a b c, OpT G f29 (f41 i) (51 - 2 * w) a ∧ OpT G f29 (f42 i) (51 - 2 * w) b ∧ p1 = a + b ∧ res = nI c ∧ TruO G f29 c (51 - 2 * w)) := by
  rcases h with ⟨h1, h2, h3, ⟨a1, a2, a3, a4⟩, ⟨_, a5⟩, _, h4⟩ | ⟨h1, ck, ⟨⟨_, b1, _, b2⟩, h2⟩, c, h3, h4⟩
  · exact Or.inl ⟨h1, h2, h3, a1, a2, a3, a4, a5 (by decide), by omega⟩
  · rcases h2 with h | h | h | h | h | h | h | ⟨_, d1, d2, d3, d4, a, b, d5, d6, d7⟩ | h | h | h | h
    · exact absurd h.1 (by decide)
    · exact absurd h.1 (by decide)
    · exact absurd h.1 (by decide)
    · exact absurd h.1 (by decide)
    · exact absurd h.1 (by decide)
    · exact absurd h.1 (by decide)
    · exact absurd h.1 (by decide)
    · rcases h4 with h4 | h4 | ⟨e1, e2, e3⟩
      · exact absurd h4.1 (by omega)
      · exact absurd h4.1 (by omega)
      · exact Or.inr ⟨d2, d3, d4, b2, b1 (by decide), h1, a, b, c, d5, d6, d7, h3, e3⟩
    · exact absurd h.1 (by decide)
    · exact absurd h.1 (by decide)
    · exact absurd h.1 (by decide)
    · exact absurd h.1 (by decide)
end
section
theorem hd_yX12_node_RX12 : yX12_node.cls = RX12 ∧ yX12_node.cls ≠ "java/lang/invoke/MethodHandle" ∧ yX12_node.cls ≠ "java/lang/invoke/VarHandle" ∧ (parseMethodDescriptor yX12_node.desc).map (fun d => d.parameters.length) = some 5 := by decide +kernel
theorem hd_yX12_end1_RX12 : yX12_end1.cls = RX12 ∧ yX12_end1.cls ≠ "java/lang/invoke/MethodHandle" ∧ yX12_end1.cls ≠ "java/lang/invoke/VarHandle" ∧ (parseMethodDescriptor yX12_end1.desc).map (fun d => d.parameters.length) = some 1 := by decide +kernel
theorem dX12_readLinear_0 : decode cX12_readLinear 0 = .ok (.aload_n 0, 1) := dk_42 (by decide +kernel)
theorem dX12_readLinear_1 : decode cX12_readLinear 1 = .ok (.getfield 143, 3) := dk_180 (by decide +kernel)
theorem dX12_readLinear_4 : decode cX12_readLinear 4 = .ok (.iload_n 1, 1) := dk_27 (by decide +kernel)
theorem dX12_readLinear_5 : decode cX12_readLinear 5 = .ok (.iaload, 1) := dk_46 (by decide +kernel)
theorem dX12_readLinear_6 : decode cX12_readLinear 6 = .ok (.ifCond .ne 16, 3) := dk_154 (by decide +kernel)
theorem dX12_readLinear_9 : decode cX12_readLinear 9 = .ok (.aload_n 0, 1) := dk_42 (by decide +kernel)
theorem dX12_readLinear_10 : decode cX12_readLinear 10 = .ok (.getfield 143, 3) := dk_180 (by decide +kernel)
theorem dX12_readLinear_13 : decode cX12_readLinear 13 = .ok (.iload_n 1, 1) := dk_27 (by decide +kernel)
theorem dX12_readLinear_14 : decode cX12_readLinear 14 = .ok (.iconst 1, 1) := dk_4 (by decide +kernel)
theorem dX12_readLinear_15 : decode cX12_readLinear 15 = .ok (.iastore, 1) := dk_79 (by decide +kernel)
theorem dX12_readLinear_16 : decode cX12_readLinear 16 = .ok (.aload_n 0, 1) := dk_42 (by decide +kernel)
theorem dX12_readLinear_17 : decode cX12_readLinear 17 = .ok (.iconst 1, 1) := dk_4 (by decide +kernel)
theorem dX12_readLinear_18 : decode cX12_readLinear 18 = .ok (.invokevirtual 586, 3) := dk_182 (by decide +kernel)
theorem dX12_readLinear_21 : decode cX12_readLinear 21 = .ok (.return_, 1) := dk_177 (by decide +kernel)
theorem dX12_readLinear_22 : decode cX12_readLinear 22 = .ok (.aload_n 0, 1) := dk_42 (by decide +kernel)
theorem dX12_readLinear_23 : decode cX12_readLinear 23 = .ok (.getfield 149, 3) := dk_180 (by decide +kernel)
theorem dX12_readLinear_26 : decode cX12_readLinear 26 = .ok (.iload_n 1, 1) := dk_27 (by decide +kernel)
theorem dX12_readLinear_27 : decode cX12_readLinear 27 = .ok (.aload_n 0, 1) := dk_42 (by decide +kernel)
theorem dX12_readLinear_28 : decode cX12_readLinear 28 = .ok (.getfield 149, 3) := dk_180 (by decide +kernel)
theorem dX12_readLinear_31 : decode cX12_readLinear 31 = .ok (.iload_n 1, 1) := dk_27 (by decide +kernel)
theorem dX12_readLinear_32 : decode cX12_readLinear 32 = .ok (.iaload, 1) := dk_46 (by decide +kernel)
theorem dX12_readLinear_33 : decode cX12_readLinear 33 = .ok (.iconst (-1), 1) := dk_2 (by decide +kernel)
theorem dX12_readLinear_34 : decode cX12_readLinear 34 = .ok (.if_icmp .ne 10, 3) := dk_160 (by decide +kernel)
theorem dX12_readLinear_37 : decode cX12_readLinear 37 = .ok (.aload_n 0, 1) := dk_42 (by decide +kernel)
theorem dX12_readLinear_38 : decode cX12_readLinear 38 = .ok (.getfield 580, 3) := dk_180 (by decide +kernel)
theorem dX12_readLinear_41 : decode cX12_readLinear 41 = .ok (.goto 42, 3) := dk_167 (by decide +kernel)
theorem dX12_readLinear_44 : decode cX12_readLinear 44 = .ok (.aload_n 0, 1) := dk_42 (by decide +kernel)
theorem dX12_readLinear_45 : decode cX12_readLinear 45 = .ok (.aload_n 0, 1) := dk_42 (by decide +kernel)
theorem dX12_readLinear_46 : decode cX12_readLinear 46 = .ok (.getfield 155, 3) := dk_180 (by decide +kernel)
theorem dX12_readLinear_49 : decode cX12_readLinear 49 = .ok (.iload_n 1, 1) := dk_27 (by decide +kernel)
theorem dX12_readLinear_50 : decode cX12_readLinear 50 = .ok (.iaload, 1) := dk_46 (by decide +kernel)
theorem dX12_readLinear_51 : decode cX12_readLinear 51 = .ok (.bipush 42, 2) := dk_16 (by decide +kernel)
theorem dX12_readLinear_53 : decode cX12_readLinear 53 = .ok (.if_icmp .ne 8, 3) := dk_160 (by decide +kernel)
theorem dX12_readLinear_56 : decode cX12_readLinear 56 = .ok (.bipush 7, 2) := dk_16 (by decide +kernel)
theorem dX12_readLinear_58 : decode cX12_readLinear 58 = .ok (.goto 5, 3) := dk_167 (by decide +kernel)
theorem dX12_readLinear_61 : decode cX12_readLinear 61 = .ok (.bipush 8, 2) := dk_16 (by decide +kernel)
theorem dX12_readLinear_63 : decode cX12_readLinear 63 = .ok (.aload_n 0, 1) := dk_42 (by decide +kernel)
theorem dX12_readLinear_64 : decode cX12_readLinear 64 = .ok (.getfield 149, 3) := dk_180 (by decide +kernel)
theorem dX12_readLinear_67 : decode cX12_readLinear 67 = .ok (.iload_n 1, 1) := dk_27 (by decide +kernel)
theorem dX12_readLinear_68 : decode cX12_readLinear 68 = .ok (.iaload, 1) := dk_46 (by decide +kernel)
theorem dX12_readLinear_69 : decode cX12_readLinear 69 = .ok (.aload_n 0, 1) := dk_42 (by decide +kernel)
theorem dX12_readLinear_70 : decode cX12_readLinear 70 = .ok (.getfield 580, 3) := dk_180 (by decide +kernel)
theorem dX12_readLinear_73 : decode cX12_readLinear 73 = .ok (.iconst 0, 1) := dk_3 (by decide +kernel)
theorem dX12_readLinear_74 : decode cX12_readLinear 74 = .ok (.aload_n 0, 1) := dk_42 (by decide +kernel)
theorem dX12_readLinear_75 : decode cX12_readLinear 75 = .ok (.getfield 161, 3) := dk_180 (by decide +kernel)
theorem dX12_readLinear_78 : decode cX12_readLinear 78 = .ok (.iload_n 1, 1) := dk_27 (by decide +kernel)
theorem dX12_readLinear_79 : decode cX12_readLinear 79 = .ok (.iaload, 1) := dk_46 (by decide +kernel)
theorem dX12_readLinear_80 : decode cX12_readLinear 80 = .ok (.invokevirtual 601, 3) := dk_182 (by decide +kernel)
theorem dX12_readLinear_83 : decode cX12_readLinear 83 = .ok (.iastore, 1) := dk_79 (by decide +kernel)
theorem dX12_readLinear_84 : decode cX12_readLinear 84 = .ok (.aload_n 0, 1) := dk_42 (by decide +kernel)
theorem dX12_readLinear_85 : decode cX12_readLinear 85 = .ok (.bipush 42, 2) := dk_16 (by decide +kernel)
theorem dX12_readLinear_87 : decode cX12_readLinear 87 = .ok (.invokevirtual 521, 3) := dk_182 (by decide +kernel)
theorem dX12_readLinear_90 : decode cX12_readLinear 90 = .ok (.ifCond .ne 12, 3) := dk_154 (by decide +kernel)
theorem dX12_readLinear_93 : decode cX12_readLinear 93 = .ok (.aload_n 0, 1) := dk_42 (by decide +kernel)
theorem dX12_readLinear_94 : decode cX12_readLinear 94 = .ok (.bipush 47, 2) := dk_16 (by decide +kernel)
theorem dX12_readLinear_96 : decode cX12_readLinear 96 = .ok (.invokevirtual 521, 3) := dk_182 (by decide +kernel)
theorem dX12_readLinear_99 : decode cX12_readLinear 99 = .ok (.ifCond .eq 33, 3) := dk_153 (by decide +kernel)
theorem dX12_readLinear_102 : decode cX12_readLinear 102 = .ok (.aload_n 0, 1) := dk_42 (by decide +kernel)
theorem dX12_readLinear_103 : decode cX12_readLinear 103 = .ok (.getfield 155, 3) := dk_180 (by decide +kernel)
theorem dX12_readLinear_106 : decode cX12_readLinear 106 = .ok (.iload_n 1, 1) := dk_27 (by decide +kernel)
theorem dX12_readLinear_107 : decode cX12_readLinear 107 = .ok (.aload_n 0, 1) := dk_42 (by decide +kernel)
theorem dX12_readLinear_108 : decode cX12_readLinear 108 = .ok (.getfield 491, 3) := dk_180 (by decide +kernel)
theorem dX12_readLinear_111 : decode cX12_readLinear 111 = .ok (.iastore, 1) := dk_79 (by decide +kernel)
theorem dX12_readLinear_112 : decode cX12_readLinear 112 = .ok (.aload_n 0, 1) := dk_42 (by decide +kernel)
theorem dX12_readLinear_113 : decode cX12_readLinear 113 = .ok (.getfield 161, 3) := dk_180 (by decide +kernel)
theorem dX12_readLinear_116 : decode cX12_readLinear 116 = .ok (.iload_n 1, 1) := dk_27 (by decide +kernel)
theorem dX12_readLinear_117 : decode cX12_readLinear 117 = .ok (.aload_n 0, 1) := dk_42 (by decide +kernel)
theorem dX12_readLinear_118 : decode cX12_readLinear 118 = .ok (.getfield 488, 3) := dk_180 (by decide +kernel)
theorem dX12_readLinear_121 : decode cX12_readLinear 121 = .ok (.iastore, 1) := dk_79 (by decide +kernel)
theorem dX12_readLinear_122 : decode cX12_readLinear 122 = .ok (.aload_n 0, 1) := dk_42 (by decide +kernel)
theorem dX12_readLinear_123 : decode cX12_readLinear 123 = .ok (.invokevirtual 524, 3) := dk_182 (by decide +kernel)
theorem dX12_readLinear_126 : decode cX12_readLinear 126 = .ok (.aload_n 0, 1) := dk_42 (by decide +kernel)
theorem dX12_readLinear_127 : decode cX12_readLinear 127 = .ok (.iconst 1, 1) := dk_4 (by decide +kernel)
theorem dX12_readLinear_128 : decode cX12_readLinear 128 = .ok (.invokevirtual 586, 3) := dk_182 (by decide +kernel)
theorem dX12_readLinear_131 : decode cX12_readLinear 131 = .ok (.return_, 1) := dk_177 (by decide +kernel)
theorem dX12_readLinear_132 : decode cX12_readLinear 132 = .ok (.aload_n 0, 1) := dk_42 (by decide +kernel)
theorem dX12_readLinear_133 : decode cX12_readLinear 133 = .ok (.getfield 146, 3) := dk_180 (by decide +kernel)
theorem dX12_readLinear_136 : decode cX12_readLinear 136 = .ok (.iload_n 1, 1) := dk_27 (by decide +kernel)
theorem dX12_readLinear_137 : decode cX12_readLinear 137 = .ok (.aload_n 0, 1) := dk_42 (by decide +kernel)
theorem dX12_readLinear_138 : decode cX12_readLinear 138 = .ok (.getfield 146, 3) := dk_180 (by decide +kernel)
theorem dX12_readLinear_141 : decode cX12_readLinear 141 = .ok (.iload_n 1, 1) := dk_27 (by decide +kernel)
theorem dX12_readLinear_142 : decode cX12_readLinear 142 = .ok (.iaload, 1) := dk_46 (by decide +kernel)
theorem dX12_readLinear_143 : decode cX12_readLinear 143 = .ok (.iconst (-1), 1) := dk_2 (by decide +kernel)
theorem dX12_readLinear_144 : decode cX12_readLinear 144 = .ok (.if_icmp .ne 12, 3) := dk_160 (by decide +kernel)
theorem dX12_readLinear_147 : decode cX12_readLinear 147 = .ok (.aload_n 0, 1) := dk_42 (by decide +kernel)
theorem dX12_readLinear_148 : decode cX12_readLinear 148 = .ok (.getfield 149, 3) := dk_180 (by decide +kernel)
theorem dX12_readLinear_151 : decode cX12_readLinear 151 = .ok (.iload_n 1, 1) := dk_27 (by decide +kernel)
theorem dX12_readLinear_152 : decode cX12_readLinear 152 = .ok (.iaload, 1) := dk_46 (by decide +kernel)
theorem dX12_readLinear_153 : decode cX12_readLinear 153 = .ok (.goto 43, 3) := dk_167 (by decide +kernel)
theorem dX12_readLinear_156 : decode cX12_readLinear 156 = .ok (.aload_n 0, 1) := dk_42 (by decide +kernel)
theorem dX12_readLinear_157 : decode cX12_readLinear 157 = .ok (.aload_n 0, 1) := dk_42 (by decide +kernel)
theorem dX12_readLinear_158 : decode cX12_readLinear 158 = .ok (.getfield 152, 3) := dk_180 (by decide +kernel)
theorem dX12_readLinear_161 : decode cX12_readLinear 161 = .ok (.iload_n 1, 1) := dk_27 (by decide +kernel)
theorem dX12_readLinear_162 : decode cX12_readLinear 162 = .ok (.iaload, 1) := dk_46 (by decide +kernel)
theorem dX12_readLinear_163 : decode cX12_readLinear 163 = .ok (.bipush 43, 2) := dk_16 (by decide +kernel)
theorem dX12_readLinear_165 : decode cX12_readLinear 165 = .ok (.if_icmp .ne 7, 3) := dk_160 (by decide +kernel)
theorem dX12_readLinear_168 : decode cX12_readLinear 168 = .ok (.iconst 5, 1) := dk_8 (by decide +kernel)
theorem dX12_readLinear_169 : decode cX12_readLinear 169 = .ok (.goto 5, 3) := dk_167 (by decide +kernel)
theorem dX12_readLinear_172 : decode cX12_readLinear 172 = .ok (.bipush 6, 2) := dk_16 (by decide +kernel)
theorem dX12_readLinear_174 : decode cX12_readLinear 174 = .ok (.aload_n 0, 1) := dk_42 (by decide +kernel)
theorem dX12_readLinear_175 : decode cX12_readLinear 175 = .ok (.getfield 146, 3) := dk_180 (by decide +kernel)
theorem dX12_readLinear_178 : decode cX12_readLinear 178 = .ok (.iload_n 1, 1) := dk_27 (by decide +kernel)
theorem dX12_readLinear_179 : decode cX12_readLinear 179 = .ok (.iaload, 1) := dk_46 (by decide +kernel)
theorem dX12_readLinear_180 : decode cX12_readLinear 180 = .ok (.aload_n 0, 1) := dk_42 (by decide +kernel)
theorem dX12_readLinear_181 : decode cX12_readLinear 181 = .ok (.getfield 149, 3) := dk_180 (by decide +kernel)
theorem dX12_readLinear_184 : decode cX12_readLinear 184 = .ok (.iload_n 1, 1) := dk_27 (by decide +kernel)
theorem dX12_readLinear_185 : decode cX12_readLinear 185 = .ok (.iaload, 1) := dk_46 (by decide +kernel)
theorem dX12_readLinear_186 : decode cX12_readLinear 186 = .ok (.iconst 0, 1) := dk_3 (by decide +kernel)
theorem dX12_readLinear_187 : decode cX12_readLinear 187 = .ok (.aload_n 0, 1) := dk_42 (by decide +kernel)
theorem dX12_readLinear_188 : decode cX12_readLinear 188 = .ok (.getfield 158, 3) := dk_180 (by decide +kernel)
theorem dX12_readLinear_191 : decode cX12_readLinear 191 = .ok (.iload_n 1, 1) := dk_27 (by decide +kernel)
theorem dX12_readLinear_192 : decode cX12_readLinear 192 = .ok (.iaload, 1) := dk_46 (by decide +kernel)
theorem dX12_readLinear_193 : decode cX12_readLinear 193 = .ok (.invokevirtual 601, 3) := dk_182 (by decide +kernel)
theorem dX12_readLinear_196 : decode cX12_readLinear 196 = .ok (.iastore, 1) := dk_79 (by decide +kernel)
theorem dX12_readLinear_197 : decode cX12_readLinear 197 = .ok (.aload_n 0, 1) := dk_42 (by decide +kernel)
theorem dX12_readLinear_198 : decode cX12_readLinear 198 = .ok (.getfield 149, 3) := dk_180 (by decide +kernel)
theorem dX12_readLinear_201 : decode cX12_readLinear 201 = .ok (.iload_n 1, 1) := dk_27 (by decide +kernel)
theorem dX12_readLinear_202 : decode cX12_readLinear 202 = .ok (.iconst (-1), 1) := dk_2 (by decide +kernel)
theorem dX12_readLinear_203 : decode cX12_readLinear 203 = .ok (.iastore, 1) := dk_79 (by decide +kernel)
theorem dX12_readLinear_204 : decode cX12_readLinear 204 = .ok (.aload_n 0, 1) := dk_42 (by decide +kernel)
theorem dX12_readLinear_205 : decode cX12_readLinear 205 = .ok (.bipush 43, 2) := dk_16 (by decide +kernel)
theorem dX12_readLinear_207 : decode cX12_readLinear 207 = .ok (.invokevirtual 521, 3) := dk_182 (by decide +kernel)
theorem dX12_readLinear_210 : decode cX12_readLinear 210 = .ok (.ifCond .ne 12, 3) := dk_154 (by decide +kernel)
theorem dX12_readLinear_213 : decode cX12_readLinear 213 = .ok (.aload_n 0, 1) := dk_42 (by decide +kernel)
theorem dX12_readLinear_214 : decode cX12_readLinear 214 = .ok (.bipush 45, 2) := dk_16 (by decide +kernel)
theorem dX12_readLinear_216 : decode cX12_readLinear 216 = .ok (.invokevirtual 521, 3) := dk_182 (by decide +kernel)
theorem dX12_readLinear_219 : decode cX12_readLinear 219 = .ok (.ifCond .eq 33, 3) := dk_153 (by decide +kernel)
theorem dX12_readLinear_222 : decode cX12_readLinear 222 = .ok (.aload_n 0, 1) := dk_42 (by decide +kernel)
theorem dX12_readLinear_223 : decode cX12_readLinear 223 = .ok (.getfield 152, 3) := dk_180 (by decide +kernel)
theorem dX12_readLinear_226 : decode cX12_readLinear 226 = .ok (.iload_n 1, 1) := dk_27 (by decide +kernel)
theorem dX12_readLinear_227 : decode cX12_readLinear 227 = .ok (.aload_n 0, 1) := dk_42 (by decide +kernel)
theorem dX12_readLinear_228 : decode cX12_readLinear 228 = .ok (.getfield 491, 3) := dk_180 (by decide +kernel)
theorem dX12_readLinear_231 : decode cX12_readLinear 231 = .ok (.iastore, 1) := dk_79 (by decide +kernel)
theorem dX12_readLinear_232 : decode cX12_readLinear 232 = .ok (.aload_n 0, 1) := dk_42 (by decide +kernel)
theorem dX12_readLinear_233 : decode cX12_readLinear 233 = .ok (.getfield 158, 3) := dk_180 (by decide +kernel)
theorem dX12_readLinear_236 : decode cX12_readLinear 236 = .ok (.iload_n 1, 1) := dk_27 (by decide +kernel)
theorem dX12_readLinear_237 : decode cX12_readLinear 237 = .ok (.aload_n 0, 1) := dk_42 (by decide +kernel)
theorem dX12_readLinear_238 : decode cX12_readLinear 238 = .ok (.getfield 488, 3) := dk_180 (by decide +kernel)
theorem dX12_readLinear_241 : decode cX12_readLinear 241 = .ok (.iastore, 1) := dk_79 (by decide +kernel)
theorem dX12_readLinear_242 : decode cX12_readLinear 242 = .ok (.aload_n 0, 1) := dk_42 (by decide +kernel)
theorem dX12_readLinear_243 : decode cX12_readLinear 243 = .ok (.invokevirtual 524, 3) := dk_182 (by decide +kernel)
theorem dX12_readLinear_246 : decode cX12_readLinear 246 = .ok (.aload_n 0, 1) := dk_42 (by decide +kernel)
theorem dX12_readLinear_247 : decode cX12_readLinear 247 = .ok (.iconst 1, 1) := dk_4 (by decide +kernel)
theorem dX12_readLinear_248 : decode cX12_readLinear 248 = .ok (.invokevirtual 586, 3) := dk_182 (by decide +kernel)
theorem dX12_readLinear_251 : decode cX12_readLinear 251 = .ok (.return_, 1) := dk_177 (by decide +kernel)
theorem dX12_readLinear_252 : decode cX12_readLinear 252 = .ok (.aload_n 0, 1) := dk_42 (by decide +kernel)
theorem dX12_readLinear_253 : decode cX12_readLinear 253 = .ok (.aload_n 0, 1) := dk_42 (by decide +kernel)
theorem dX12_readLinear_254 : decode cX12_readLinear 254 = .ok (.getfield 146, 3) := dk_180 (by decide +kernel)
theorem dX12_readLinear_257 : decode cX12_readLinear 257 = .ok (.iload_n 1, 1) := dk_27 (by decide +kernel)
theorem dX12_readLinear_258 : decode cX12_readLinear 258 = .ok (.iaload, 1) := dk_46 (by decide +kernel)
theorem dX12_readLinear_259 : decode cX12_readLinear 259 = .ok (.invokevirtual 605, 3) := dk_182 (by decide +kernel)
theorem dX12_readLinear_262 : decode cX12_readLinear 262 = .ok (.return_, 1) := dk_177 (by decide +kernel)
def wsRX12_readLinear : List Cond := .code yX12_readLinear cX12_readLinear 2 none :: ([.fieldLink RX12 143 "OptimaWorksModel" "step" "[I", .fieldLink RX12 149 "OptimaWorksModel" "got2" "[I", .fieldLink RX12 155 "OptimaWorksModel" "sign2" "[I", .fieldLink RX12 580 "OptimaWorksModel" "result" "I", .fieldLink RX12 161 "OptimaWorksModel" "at2" "[I", .fieldLink RX12 491 "OptimaWorksModel" "sign0" "I", .fieldLink RX12 488 "OptimaWorksModel" "from" "I", .fieldLink RX12 146 "OptimaWorksModel" "got1" "[I", .fieldLink RX12 152 "OptimaWorksModel" "sign1" "[I", .fieldLink RX12 158 "OptimaWorksModel" "at1" "[I"] ++ wsX120 ++ (wsV RX12 601 RX12 yX12_node wsRX12_node) ++ (wsV RX12 521 RX12 yX12_isSign wsRX12_isSign) ++ (wsV RX12 524 RX12 yX12_next wsRX12_next) ++ (wsV RX12 586 RX12 yX12_begin1 wsRX12_begin1) ++ (wsV RX12 605 RX12 yX12_end1 wsRend1w))
theorem iwsRX12_readLinear_in12 : ∀ w ∈ wsX120, w ∈ wsRX12_readLinear := fun _ h => List.mem_cons_of_mem _ (List.mem_append_left _ (List.mem_append_left _ (List.mem_append_left _ (List.mem_append_left _ (List.mem_append_left _ (List.mem_append_right _ h))))))
theorem gwsRX12_readLinear_0 : GoodIn wsRX12_readLinear (wsV RX12 601 RX12 yX12_node wsRX12_node) := goodIn_sub (fun _ h => List.mem_cons_of_mem _ (List.mem_append_left _ (List.mem_append_left _ (List.mem_append_left _ (List.mem_append_left _ (List.mem_append_right _ h)))))) (gdV (by decide +kernel) gdwsRX12_node)
theorem gwsRX12_readLinear_1 : GoodIn wsRX12_readLinear (wsV RX12 521 RX12 yX12_isSign wsRX12_isSign) := goodIn_sub (fun _ h => List.mem_cons_of_mem _ (List.mem_append_left _ (List.mem_append_left _ (List.mem_append_left _ (List.mem_append_right _ h))))) (gdV (by decide +kernel) gdwsRX12_isSign)
theorem gwsRX12_readLinear_2 : GoodIn wsRX12_readLinear (wsV RX12 524 RX12 yX12_next wsRX12_next) := goodIn_sub (fun _ h => List.mem_cons_of_mem _ (List.mem_append_left _ (List.mem_append_left _ (List.mem_append_right _ h)))) (gdV (by decide +kernel) gdwsRX12_next)
theorem gwsRX12_readLinear_3 : GoodIn wsRX12_readLinear (wsV RX12 586 RX12 yX12_begin1 wsRX12_begin1) := goodIn_sub (fun _ h => List.mem_cons_of_mem _ (List.mem_append_left _ (List.mem_append_right _ h))) (gdV (by decide +kernel) gdwsRX12_begin1)
theorem gwsRX12_readLinear_4 : GoodIn wsRX12_readLinear (wsV RX12 605 RX12 yX12_end1 wsRend1w) := goodIn_sub (fun _ h => List.mem_cons_of_mem _ (List.mem_append_right _ h)) (gdV (by decide +kernel) gdwsRend1w)
theorem gdwsRX12_readLinear : wsRX12_readLinear.all goodWord = true := gdC rfl (gdA (gdA (gdA (gdA (gdA (gdA (by decide +kernel : ([.fieldLink RX12 143 "OptimaWorksModel" "step" "[I", .fieldLink RX12 149 "OptimaWorksModel" "got2" "[I", .fieldLink RX12 155 "OptimaWorksModel" "sign2" "[I", .fieldLink RX12 580 "OptimaWorksModel" "result" "I", .fieldLink RX12 161 "OptimaWorksModel" "at2" "[I", .fieldLink RX12 491 "OptimaWorksModel" "sign0" "I", .fieldLink RX12 488 "OptimaWorksModel" "from" "I", .fieldLink RX12 146 "OptimaWorksModel" "got1" "[I", .fieldLink RX12 152 "OptimaWorksModel" "sign1" "[I", .fieldLink RX12 158 "OptimaWorksModel" "at1" "[I"] : List Cond).all goodWord = true) gdwsX120) (gdV (by decide +kernel) gdwsRX12_node)) (gdV (by decide +kernel) gdwsRX12_isSign)) (gdV (by decide +kernel) gdwsRX12_next)) (gdV (by decide +kernel) gdwsRX12_begin1)) (gdV (by decide +kernel) gdwsRend1w))
theorem hm_r_X12_readLinear_0 : (.fieldLink RX12 143 "OptimaWorksModel" "step" "[I" : Cond) ∈ wsRX12_readLinear := by decide +kernel
theorem hm_r_X12_readLinear_1 : (.fieldLink RX12 149 "OptimaWorksModel" "got2" "[I" : Cond) ∈ wsRX12_readLinear := by decide +kernel
theorem hm_r_X12_readLinear_2 : (.fieldLink RX12 155 "OptimaWorksModel" "sign2" "[I" : Cond) ∈ wsRX12_readLinear := by decide +kernel
theorem hm_r_X12_readLinear_3 : (.fieldLink RX12 580 "OptimaWorksModel" "result" "I" : Cond) ∈ wsRX12_readLinear := by decide +kernel
theorem hm_r_X12_readLinear_4 : (.fieldLink RX12 161 "OptimaWorksModel" "at2" "[I" : Cond) ∈ wsRX12_readLinear := by decide +kernel
theorem hm_r_X12_readLinear_5 : (.fieldLink RX12 491 "OptimaWorksModel" "sign0" "I" : Cond) ∈ wsRX12_readLinear := by decide +kernel
theorem hm_r_X12_readLinear_6 : (.fieldLink RX12 488 "OptimaWorksModel" "from" "I" : Cond) ∈ wsRX12_readLinear := by decide +kernel
theorem hm_r_X12_readLinear_7 : (.fieldLink RX12 146 "OptimaWorksModel" "got1" "[I" : Cond) ∈ wsRX12_readLinear := by decide +kernel
theorem hm_r_X12_readLinear_8 : (.fieldLink RX12 152 "OptimaWorksModel" "sign1" "[I" : Cond) ∈ wsRX12_readLinear := by decide +kernel
theorem hm_r_X12_readLinear_9 : (.fieldLink RX12 158 "OptimaWorksModel" "at1" "[I" : Cond) ∈ wsRX12_readLinear := by decide +kernel
set_option maxHeartbeats 4000000 in
set_option maxRecDepth 100000 in
/-- readLinear(d) -/
theorem r_X12_readLinear (l : Launch) (dC : Nat → ClassId) (dI : Nat → Nat → Nat) (a : Nat → Nat) (k : Nat → ClassId) (h0 : Nat) (vi : Nat → Int32) (vj : Nat → Int64) (vF : Nat → Nat → Int32) (vG : Nat → Nat → Int64) (tp : Nat) (an : Nat) (fn : Nat) (nm : Nat) (se : Nat) (pa : Nat) (va : Nat) (bd : Nat) (tT : Nat → Nat → Int32) (gG : RG) (bs : Nat) (r0 : Nat) (dN : Nat) (wi : Nat) (nd : Nat) (mM : Nat) (cw : Nat) (uu : Nat) (pe : Nat) (un : Nat) (gl : Nat) (gm : Nat) (xe : Nat) (p1 : Nat) (n1 : Nat) (m1 : Nat) (tw : Nat) (hTp : vi 16 = nI tp) (htp : tp ≤ 4000) (ha0 : vi 17 = nI an) (hfr : vi 19 = nI fn) (hLx : LxO tp fn an (vi 18) (vi 20)) (hst0 : 0 ≤ (vi 21).toInt) (hnm : vi 25 = nI nm) (hnm40 : nm ≤ 40) (hno : NmO (vF 11) (vF 12) nm) (hNk : NkO (vF 10) (vF 13) nm se pa va) (hbd : vi 30 = nI bd) (hbd60 : bd ≤ 60) (hbo : NmO (vF 14) (vF 15) 60) (hse44 : se ≤ 44) (hRV : RdV tT gG (vF 29) (vF 30) (vF 31) (vF 32) (vF 36) (vF 37) (vF 38) se nd bs) (hRT : RdT tT gG (vF 29) (vF 30) (vF 31) (vF 32) (vF 36) (vF 37) (vF 38) (vF 39) (vF 40) (vF 41) (vF 42) (vF 48) (vi 18) (vi 20) (vi 76) se bs r0 dN wi nd bd fn mM 0 cw uu pe un gl gm xe p1 n1 m1 tw) (hdp : vi 74 = nI (dN + 1)) (hwi : vi 75 = nI wi) (hnd : vi 52 = nI nd) (sz : Nat) : Met l yX12_readLinear wsRX12_readLinear ({ frames := 8, cells := 0, slots := 0, locals := 173 }) (va_Pc [.ref h0, .int (nI dN)] (fun U => U.heap.size = sz ∧ va_P (dC, dI) vwCl (WR a k h0 vi vj vF vG) U.heap ∧ va_K (dC, dI) vwCl (tX12 k) U ∧ va_D (fun _ => True) (WR a k h0 vi vj vF vG) ∧ StrA (va_A (WR a k h0 vi vj vF vG) sz) U U.heap)) (va_Qv (fun (u : (Nat) × (Nat) × (Int32) × (Int32) × (Int32) × (Int32) × (Nat → Int32) × (Nat → Int32) × (Nat → Int32) × (Nat → Int32) × (Nat → Int32) × (Nat → Int32) × (Nat → Int32) × (Nat → Int32) × (Nat → Int32) × (Nat → Int32) × (Nat → Int32) × (Nat → Int32) × (Nat → Int32) × (Nat → Int32) × (Nat → Int32) × (Nat → Int32) × (Nat → Int32) × (Nat) × (Nat) × (Nat) × (Int32) × (Int32) × (RG)) => (LxO tp (u.2.1) (u.1) (u.2.2.2.1) (u.2.2.1)) ∧ (fn ≤ (u.2.1)) ∧ (0 ≤ ((u.2.2.2.2.1)).toInt) ∧ (0 < ((u.2.2.2.2.1)).toInt ∨ (RdS tT (u.2.2.2.2.2.2.2.2.2.2.2.2.2.2.2.2.2.2.2.2.2.2.2.2.2.2.2.2) (u.2.2.2.2.2.2.1) (u.2.2.2.2.2.2.2.1) (u.2.2.2.2.2.2.2.2.1) (u.2.2.2.2.2.2.2.2.2.1) (vF 36) (vF 37) (vF 38) (u.2.2.2.2.2.2.2.2.2.2.2.2.2.1) (u.2.2.2.2.2.2.2.2.2.2.2.2.2.2.1) (u.2.2.2.2.2.2.2.2.2.2.2.2.2.2.2.1) (u.2.2.2.2.2.2.2.2.2.2.2.2.2.2.2.2.1) (u.2.2.2.2.2.2.2.2.2.2.2.2.2.2.2.2.2.2.2.2.2.2.1) (u.2.2.2.1) (u.2.2.1) (u.2.2.2.2.2.2.2.2.2.2.2.2.2.2.2.2.2.2.2.2.2.2.2.2.2.2.1) se bs r0 (u.2.2.2.2.2.2.2.2.2.2.2.2.2.2.2.2.2.2.2.2.2.2.2.1) (u.2.2.2.2.2.2.2.2.2.2.2.2.2.2.2.2.2.2.2.2.2.2.2.2.1) (u.2.2.2.2.2.2.2.2.2.2.2.2.2.2.2.2.2.2.2.2.2.2.2.2.2.1) bd (u.2.1) (mM - 1) ∧ Ext 0 bs gG (vF 29) (vF 30) (vF 31) (vF 32) (vF 36) (vF 37) (vF 38) (u.2.2.2.2.2.2.2.2.2.2.2.2.2.2.2.2.2.2.2.2.2.2.2.2.2.2.2.2) (u.2.2.2.2.2.2.1) (u.2.2.2.2.2.2.2.1) (u.2.2.2.2.2.2.2.2.1) (u.2.2.2.2.2.2.2.2.2.1) (vF 36) (vF 37) (vF 38))) ∧ ((u.2.2.2.2.2.2.2.2.2.2.2.2.2.2.2.2.2.2.2.2.2.2.2.1) ≤ dN + 2)) (fun (u : (Nat) × (Nat) × (Int32) × (Int32) × (Int32) × (Int32) × (Nat → Int32) × (Nat → Int32) × (Nat → Int32) × (Nat → Int32) × (Nat → Int32) × (Nat → Int32) × (Nat → Int32) × (Nat → Int32) × (Nat → Int32) × (Nat → Int32) × (Nat → Int32) × (Nat → Int32) × (Nat → Int32) × (Nat → Int32) × (Nat → Int32) × (Nat → Int32) × (Nat → Int32) × (Nat) × (Nat) × (Nat) × (Int32) × (Int32) × (RG)) t => va_P (dC, dI) vwCl (WR a k h0 (fT (fT (fT (fT (fT (fT (fT (fT (fT (fT (fT vi 52 (nI (u.2.2.2.2.2.2.2.2.2.2.2.2.2.2.2.2.2.2.2.2.2.2.2.2.2.1))) 17 (nI (u.1))) 19 (nI (u.2.1))) 20 (u.2.2.1)) 18 (u.2.2.2.1)) 75 (nI (u.2.2.2.2.2.2.2.2.2.2.2.2.2.2.2.2.2.2.2.2.2.2.2.2.1))) 74 (nI (u.2.2.2.2.2.2.2.2.2.2.2.2.2.2.2.2.2.2.2.2.2.2.2.1))) 21 (u.2.2.2.2.1)) 22 (u.2.2.2.2.2.1)) 76 (u.2.2.2.2.2.2.2.2.2.2.2.2.2.2.2.2.2.2.2.2.2.2.2.2.2.2.1)) 77 (u.2.2.2.2.2.2.2.2.2.2.2.2.2.2.2.2.2.2.2.2.2.2.2.2.2.2.2.1)) vj (fT (fT (fT (fT (fT (fT (fT (fT (fT (fT (fT (fT (fT (fT (fT (fT (fT vF 29 (u.2.2.2.2.2.2.1)) 30 (u.2.2.2.2.2.2.2.1)) 31 (u.2.2.2.2.2.2.2.2.1)) 32 (u.2.2.2.2.2.2.2.2.2.1)) 33 (u.2.2.2.2.2.2.2.2.2.2.1)) 34 (u.2.2.2.2.2.2.2.2.2.2.2.1)) 35 (u.2.2.2.2.2.2.2.2.2.2.2.2.1)) 42 (u.2.2.2.2.2.2.2.2.2.2.2.2.2.2.2.2.1)) 44 (u.2.2.2.2.2.2.2.2.2.2.2.2.2.2.2.2.2.2.1)) 46 (u.2.2.2.2.2.2.2.2.2.2.2.2.2.2.2.2.2.2.2.2.1)) 39 (u.2.2.2.2.2.2.2.2.2.2.2.2.2.1)) 40 (u.2.2.2.2.2.2.2.2.2.2.2.2.2.2.1)) 41 (u.2.2.2.2.2.2.2.2.2.2.2.2.2.2.2.1)) 47 (u.2.2.2.2.2.2.2.2.2.2.2.2.2.2.2.2.2.2.2.2.2.1)) 48 (u.2.2.2.2.2.2.2.2.2.2.2.2.2.2.2.2.2.2.2.2.2.2.1)) 43 (u.2.2.2.2.2.2.2.2.2.2.2.2.2.2.2.2.2.1)) 45 (u.2.2.2.2.2.2.2.2.2.2.2.2.2.2.2.2.2.2.2.1)) vG) t.heap ∧ va_D (va_A (WR a k h0 vi vj vF vG) sz) (WR a k h0 (fT (fT (fT (fT (fT (fT (fT (fT (fT (fT (fT vi 52 (nI (u.2.2.2.2.2.2.2.2.2.2.2.2.2.2.2.2.2.2.2.2.2.2.2.2.2.1))) 17 (nI (u.1))) 19 (nI (u.2.1))) 20 (u.2.2.1)) 18 (u.2.2.2.1)) 75 (nI (u.2.2.2.2.2.2.2.2.2.2.2.2.2.2.2.2.2.2.2.2.2.2.2.2.1))) 74 (nI (u.2.2.2.2.2.2.2.2.2.2.2.2.2.2.2.2.2.2.2.2.2.2.2.1))) 21 (u.2.2.2.2.1)) 22 (u.2.2.2.2.2.1)) 76 (u.2.2.2.2.2.2.2.2.2.2.2.2.2.2.2.2.2.2.2.2.2.2.2.2.2.2.1)) 77 (u.2.2.2.2.2.2.2.2.2.2.2.2.2.2.2.2.2.2.2.2.2.2.2.2.2.2.2.1)) vj (fT (fT (fT (fT (fT (fT (fT (fT (fT (fT (fT (fT (fT (fT (fT (fT (fT vF 29 (u.2.2.2.2.2.2.1)) 30 (u.2.2.2.2.2.2.2.1)) 31 (u.2.2.2.2.2.2.2.2.1)) 32 (u.2.2.2.2.2.2.2.2.2.1)) 33 (u.2.2.2.2.2.2.2.2.2.2.1)) 34 (u.2.2.2.2.2.2.2.2.2.2.2.1)) 35 (u.2.2.2.2.2.2.2.2.2.2.2.2.1)) 42 (u.2.2.2.2.2.2.2.2.2.2.2.2.2.2.2.2.1)) 44 (u.2.2.2.2.2.2.2.2.2.2.2.2.2.2.2.2.2.2.1)) 46 (u.2.2.2.2.2.2.2.2.2.2.2.2.2.2.2.2.2.2.2.2.1)) 39 (u.2.2.2.2.2.2.2.2.2.2.2.2.2.1)) 40 (u.2.2.2.2.2.2.2.2.2.2.2.2.2.2.1)) 41 (u.2.2.2.2.2.2.2.2.2.2.2.2.2.2.2.1)) 47 (u.2.2.2.2.2.2.2.2.2.2.2.2.2.2.2.2.2.2.2.2.2.1)) 48 (u.2.2.2.2.2.2.2.2.2.2.2.2.2.2.2.2.2.2.2.2.2.2.1)) 43 (u.2.2.2.2.2.2.2.2.2.2.2.2.2.2.2.2.2.1)) 45 (u.2.2.2.2.2.2.2.2.2.2.2.2.2.2.2.2.2.2.2.1)) vG)) (va_A (WR a k h0 vi vj vF vG) sz)) 0 0 (va_A (WR a k h0 vi vj vF vG) sz) := by
  refine Met.ofW (cc := cX12_readLinear) (maxL := 2) (ret := none) (by decide) rfl ?_
  intro p e s m args below meth c s₁ B hml hv
  obtain ⟨rfl, hsz, hP, hK, hD0, hE⟩ := hv
  have hx := B.exec
  have hb := B.bytes
  have hr := B.returns
  have hts := atoms_spec (ws := wsRX12_readLinear) B.pre
  have hown : s.vm.findClass RX12 = some m.cls := findClass_of_methodNamed B.named
  have hlocks := B.notSynchronized
  subst hsz
  have hD := hD0.self (sz := s.heap.size)
  generalize hAe : va_A (WR a k h0 vi vj vF vG) s.heap.size = A at hD hE ⊢
  have hA : ∀ q : Nat, s.heap.size ≤ q → A q := fun q h => by rw [← hAe]; exact Or.inr h
  have hS : va_S A s.heap s.heap [] := va_S.rf
  have hl := lv_entry ([.ref h0, .int (nI dN)]) (n := 2) (Nat.le_of_ble_eq_true rfl)
  rw [lg_entry_eq]
  generalize (lg_sl ([.ref h0, .int (nI dN)]) ++ List.replicate (2 - (lg_sl ([.ref h0, .int (nI dN)])).length) Slot.unset).toArray = ls at hl ⊢
  have hl : lv_has ls 2 [(0, .ref h0), (1, .int (nI dN))] := hl
  have hfa := hLx.1
  have han := hLx.2.1
  have han4 : an ≤ 4000 := by omega
  obtain ⟨⟨h39, _, h48⟩, hBel, ⟨h25, hwc⟩, hTq, hc1, hc2, hc3, hc4, hc5, hc6⟩ := hRT
  have hdd := hBel.deep
  refine lv_aload_n hx hb dX12_readLinear_0 rfl (lv_at hl 0 rfl) ?_
  refine va_get (D := (dC, dI)) (ci := 12) (v := .ref (a 40)) (C := RX12) (T := TX12) (N := 163) (fs := fM (vS a vi vj)) hx hb hts iwsRX12_readLinear_in12 hown hK hP 0 rfl rfl 65 (by decide) (hts _ hm_r_X12_readLinear_0) (fun _ h9 => h9) rfl dX12_readLinear_1 ?_
  refine lv_iload_n hx hb dX12_readLinear_4 rfl (lv_at hl 1 rfl) ?_
  refine va_iald (cA := k 40) (n := 120) (f := (vF 40)) hx hb hK hP 41 40 (WR_get 40 (by decide)) (TR_get 40 (by decide)) (vp_in_nI (show dN < 120 by omega) (by omega)) dX12_readLinear_5 ?_
  refine lv_topi (fun y1 hy1 => ?_)
  obtain rfl : ((vF 40) dN) = y1 := (hy1.trans (by rw [nI_clamp (by omega)])).symm
  refine lv_if_ne (tgt := 22) hx hb dX12_readLinear_6 (by decide) (fun c_6 => ?_) (fun c_6 => ?_)
  · have t_6 : (((vF 40) dN)).toInt ≠ 0 := toI_ne c_6 rfl (by decide)
    obtain ⟨hq0, hq1, hq2, hq3, hq4, hq5, qa, qb, cR, hO1, hO2, hp1, hres, hw24, hcR⟩ := hTq.linear.resolve_left (fun h => c_6 h.1)
    have hK0 := RdK.first (gl := gl) hRV (by omega)
    refine lv_aload_n hx hb dX12_readLinear_22 rfl (lv_at hl 0 rfl) ?_
    refine va_get (D := (dC, dI)) (ci := 12) (v := .ref (a 42)) (C := RX12) (T := TX12) (N := 163) (fs := fM (vS a vi vj)) hx hb hts iwsRX12_readLinear_in12 hown hK hP 0 rfl rfl 67 (by decide) (hts _ hm_r_X12_readLinear_1) (fun _ h9 => h9) rfl dX12_readLinear_23 ?_
    refine lv_iload_n hx hb dX12_readLinear_26 rfl (lv_at hl 1 rfl) ?_
    refine lv_aload_n hx hb dX12_readLinear_27 rfl (lv_at hl 0 rfl) ?_
    refine va_get (D := (dC, dI)) (ci := 12) (v := .ref (a 42)) (C := RX12) (T := TX12) (N := 163) (fs := fM (vS a vi vj)) hx hb hts iwsRX12_readLinear_in12 hown hK hP 0 rfl rfl 67 (by decide) (hts _ hm_r_X12_readLinear_1) (fun _ h9 => h9) rfl dX12_readLinear_28 ?_
    refine lv_iload_n hx hb dX12_readLinear_31 rfl (lv_at hl 1 rfl) ?_
    refine va_iald (cA := k 42) (n := 120) (f := (vF 42)) hx hb hK hP 43 42 (WR_get 42 (by decide)) (TR_get 42 (by decide)) (vp_in_nI (show dN < 120 by omega) (by omega)) dX12_readLinear_32 ?_
    refine lv_topi (fun y2 hy2 => ?_)
    obtain rfl : ((vF 42) dN) = y2 := (hy2.trans (by rw [nI_clamp (by omega)])).symm
    refine lv_iconst (v := (-1)) hx hb dX12_readLinear_33 (by decide) ?_
    refine W.cut (pc := 83) (fun H locs ls stk => ∃ (c3 : Nat) (G3 : RG) (nd3 : Nat) (a29 : Nat → Int32) (a30 : Nat → Int32) (a31 : Nat → Int32) (a32 : Nat → Int32) (a33 : Nat → Int32) (a34 : Nat → Int32) (a35 : Nat → Int32), (RdK tT gG (vF 29) (vF 30) (vF 31) (vF 32) (vF 36) (vF 37) (vF 38) G3 a29 a30 a31 a32 (vF 36) (vF 37) (vF 38) se nd3 bs gl) ∧ (LinO G3 a29 c3 (50 - 2 * (cw + xe))) ∧ (nd3 + pe + qa ≤ fn ∧ G3.vN + un ≤ nd3) ∧  stk = [.int (nI c3), .int (nI dN), .ref (a 42)] ∧ va_P (dC, dI) vwCl (WR a k h0 (fT vi 52 (nI nd3)) vj (fT (fT (fT (fT (fT (fT (fT vF 29 a29) 30 a30) 31 a31) 32 a32) 33 a33) 34 a34) 35 a35) vG) H ∧ va_D A (WR a k h0 (fT vi 52 (nI nd3)) vj (fT (fT (fT (fT (fT (fT (fT vF 29 a29) 30 a30) 31 a31) 32 a32) 33 a33) 34 a34) 35 a35) vG) ∧ va_S A s.heap H locs ∧ lv_has ls 2 [(0, .ref h0), (1, .int (nI dN))]) (fun join1 => ?_) ?_
    · refine lv_icmp_ne (tgt := 44) hx hb dX12_readLinear_34 (by decide) (fun c_34 => ?_) (fun c_34 => ?_)
      · have t_34 : (((vF 42) dN)).toInt ≠ -1 := toI_ne c_34 rfl (by decide)
        obtain ⟨hb1, cO, hcO, hcL⟩ := hO2.resolve_left (fun h => c_34 h.1)
        refine lv_aload_n hx hb dX12_readLinear_44 rfl (lv_at hl 0 rfl) ?_
        refine lv_aload_n hx hb dX12_readLinear_45 rfl (lv_at hl 0 rfl) ?_
        refine va_get (D := (dC, dI)) (ci := 12) (v := .ref (a 44)) (C := RX12) (T := TX12) (N := 163) (fs := fM (vS a vi vj)) hx hb hts iwsRX12_readLinear_in12 hown hK hP 0 rfl rfl 69 (by decide) (hts _ hm_r_X12_readLinear_2) (fun _ h9 => h9) rfl dX12_readLinear_46 ?_
        refine lv_iload_n hx hb dX12_readLinear_49 rfl (lv_at hl 1 rfl) ?_
        refine va_iald (cA := k 44) (n := 120) (f := (vF 44)) hx hb hK hP 45 44 (WR_get 44 (by decide)) (TR_get 44 (by decide)) (vp_in_nI (show dN < 120 by omega) (by omega)) dX12_readLinear_50 ?_
        refine lv_topi (fun y3 hy3 => ?_)
        obtain rfl : ((vF 44) dN) = y3 := (hy3.trans (by rw [nI_clamp (by omega)])).symm
        refine lv_bipush (v := 42) hx hb dX12_readLinear_51 (by decide) ?_
        refine W.cut (pc := 63) (fun H locs ls stk => ∃ (kz : Int32), (∃ k, kz = nI k ∧ 5 ≤ k ∧ k ≤ 8) ∧  stk = [.int kz, .ref h0, .int (nI dN), .ref (a 42)] ∧ va_P (dC, dI) vwCl (WR a k h0 vi vj vF vG) H ∧ va_D A (WR a k h0 vi vj vF vG) ∧ va_S A s.heap H locs ∧ lv_has ls 2 [(0, .ref h0), (1, .int (nI dN))]) (fun join2 => ?_) ?_
        · refine lv_icmp_ne (tgt := 61) hx hb dX12_readLinear_53 (by decide) (fun c_53 => ?_) (fun c_53 => ?_)
          · have t_53 : (((vF 44) dN)).toInt ≠ 42 := toI_ne c_53 rfl (by decide)
            refine lv_bipush (v := 8) hx hb dX12_readLinear_61 (by decide) ?_
            have hl : lv_has _ _ ([(0, .ref h0), (1, .int (nI dN))]) := lv_sub hl [0, 1] rfl
            exact join2 _ _ _ _ ⟨8, ⟨8, by decide, by decide, by decide⟩, rfl, hP, hD, hS, hl⟩
          · have t_53 : (((vF 44) dN)).toInt = 42 := toI_nne c_53 rfl (by decide)
            refine lv_bipush (v := 7) hx hb dX12_readLinear_56 (by decide) ?_
            refine lv_goto (tgt := 63) hx hb dX12_readLinear_58 (by decide) ?_
            have hl : lv_has _ _ ([(0, .ref h0), (1, .int (nI dN))]) := lv_sub hl [0, 1] rfl
            exact join2 _ _ _ _ ⟨7, ⟨7, by decide, by decide, by decide⟩, rfl, hP, hD, hS, hl⟩
        · rintro H locs ls stk ⟨kz, hkz0, rfl, hP, hD, hS, hl⟩
          obtain ⟨kk, hkz, hk5, hk8⟩ := hkz0
          refine lv_aload_n hx hb dX12_readLinear_63 rfl (lv_at hl 0 rfl) ?_
          refine va_get (D := (dC, dI)) (ci := 12) (v := .ref (a 42)) (C := RX12) (T := TX12) (N := 163) (fs := fM (vS a vi vj)) hx hb hts iwsRX12_readLinear_in12 hown hK hP 0 rfl rfl 67 (by decide) (hts _ hm_r_X12_readLinear_1) (fun _ h9 => h9) rfl dX12_readLinear_64 ?_
          refine lv_iload_n hx hb dX12_readLinear_67 rfl (lv_at hl 1 rfl) ?_
          refine va_iald (cA := k 42) (n := 120) (f := (vF 42)) hx hb hK hP 43 42 (WR_get 42 (by decide)) (TR_get 42 (by decide)) (vp_in_nI (show dN < 120 by omega) (by omega)) dX12_readLinear_68 ?_
          refine lv_topi (fun y4 hy4 => ?_)
          obtain rfl : ((vF 42) dN) = y4 := (hy4.trans (by rw [nI_clamp (by omega)])).symm
          refine lv_topi (fun y5 hy5 => ?_)
          obtain rfl : (nI cO) = y5 := (hy5.trans (hcO)).symm
          refine lv_aload_n hx hb dX12_readLinear_69 rfl (lv_at hl 0 rfl) ?_
          refine va_get (D := (dC, dI)) (ci := 12) (v := .int (vi 76)) (C := RX12) (T := TX12) (N := 163) (fs := fM (vS a vi vj)) hx hb hts iwsRX12_readLinear_in12 hown hK hP 0 rfl rfl 76 (by decide) (hts _ hm_r_X12_readLinear_3) (fun _ h9 => h9) rfl dX12_readLinear_70 ?_
          refine lv_topi (fun y6 hy6 => ?_)
          obtain rfl : (nI cR) = y6 := (hy6.trans (hres)).symm
          refine lv_iconst (v := 0) hx hb dX12_readLinear_73 (by decide) ?_
          refine lv_aload_n hx hb dX12_readLinear_74 rfl (lv_at hl 0 rfl) ?_
          refine va_get (D := (dC, dI)) (ci := 12) (v := .ref (a 46)) (C := RX12) (T := TX12) (N := 163) (fs := fM (vS a vi vj)) hx hb hts iwsRX12_readLinear_in12 hown hK hP 0 rfl rfl 71 (by decide) (hts _ hm_r_X12_readLinear_4) (fun _ h9 => h9) rfl dX12_readLinear_75 ?_
          refine lv_iload_n hx hb dX12_readLinear_78 rfl (lv_at hl 1 rfl) ?_
          refine va_iald (cA := k 46) (n := 120) (f := (vF 46)) hx hb hK hP 47 46 (WR_get 46 (by decide)) (TR_get 46 (by decide)) (vp_in_nI (show dN < 120 by omega) (by omega)) dX12_readLinear_79 ?_
          refine lv_topi (fun y7 hy7 => ?_)
          obtain rfl : ((vF 46) dN) = y7 := (hy7.trans (by rw [nI_clamp (by omega)])).symm
          have hFc := allFree hD hS hA
          refine va_calli (va_runV (As := [.int kz, .int (nI cO), .int (nI cR), .int 0, .int ((vF 46) dN)]) (rest := [.int (nI dN), .ref (a 42)]) ⟨hx, hb, hml, hown, hts⟩ (r_X12_node l dC dI a k h0 vi vj vF vG nd kz (nI cO) (nI cR) 0 ((vF 46) dN) hnd (by first | with_reducible assumption | decide | omega | rfl | assumption) H.size) (cwV 5 hts gwsRX12_readLinear_0 rfl rfl rfl hd_yX12_node_RX12 (by decide +kernel)) (fz_pre (va_recv hK hP (ci := 12) (q0 := 0) rfl rfl) hP hK hD) rfl rfl hl.1 rfl (lv_room (Nat.le_of_ble_eq_true rfl)) dX12_readLinear_80 (by decide +kernel)) hS (fun q _ h => hFc q h) hFc (fun r80 u t9_ H locs ht hvm hw9 hB9 hz1 hk1 hS => ?_)
          have hP : va_P (dC, dI) vwCl (WR a k h0 (fT vi 52 (nI (nd + 1))) vj (fT (fT (fT (fT (fT (fT (fT vF 29 (upd (vF 29) (nI nd).toNatClampNeg kz)) 30 (upd (vF 30) (nI nd).toNatClampNeg (nI cO))) 31 (upd (vF 31) (nI nd).toNatClampNeg (nI cR))) 32 (upd (vF 32) (nI nd).toNatClampNeg 0)) 33 (upd (vF 33) (nI nd).toNatClampNeg ((vF 46) dN))) 34 (upd (vF 34) (nI nd).toNatClampNeg 0)) 35 (upd (vF 35) (nI nd).toNatClampNeg 0)) vG) H := fz_P ht hB9.1
          have hD := fz_sd hP (hB9.2.weaken (fun _ q _ h => hFc q.1 h)) rfl
          obtain rfl := hw9
          have hl : lv_has _ _ ([(0, .ref h0), (1, .int (nI dN))]) := lv_sub hl [0, 1] rfl
          exact join1 _ _ _ _ ⟨nd, (gG.add nd (gG.wt cO + gG.wt cR + 3) (50 - 2 * (cw + xe)) 0), (nd + 1), (upd (vF 29) (nI nd).toNatClampNeg kz), (upd (vF 30) (nI nd).toNatClampNeg (nI cO)), (upd (vF 31) (nI nd).toNatClampNeg (nI cR)), (upd (vF 32) (nI nd).toNatClampNeg 0), (upd (vF 33) (nI nd).toNatClampNeg ((vF 46) dN)), (upd (vF 34) (nI nd).toNatClampNeg 0), (upd (vF 35) (nI nd).toNatClampNeg 0), (hK0.mkPair (cv := 0) (by omega) hkz ⟨hk5, hk8⟩ rfl rfl hcL (hcR.mono (show 49 - 2 * (cw + xe) ≤ 49 - 2 * (cw + xe) by omega)) (by omega) (show 50 - 2 * (cw + xe) ≤ 50 - 2 * (cw + xe) by omega) (by omega)).1, (hK0.mkPair (cv := 0) (by omega) hkz ⟨hk5, hk8⟩ rfl rfl hcL (hcR.mono (show 49 - 2 * (cw + xe) ≤ 49 - 2 * (cw + xe) by omega)) (by omega) (show 50 - 2 * (cw + xe) ≤ 50 - 2 * (cw + xe) by omega) (by omega)).2, by show nd + 1 + pe + qa ≤ fn ∧ gG.vN + 1 + un ≤ nd + 1; omega, rfl, hP, hD, hS, hl⟩
      · have t_34 : (((vF 42) dN)).toInt = -1 := toI_nne c_34 rfl (by decide)
        refine lv_aload_n hx hb dX12_readLinear_37 rfl (lv_at hl 0 rfl) ?_
        refine va_get (D := (dC, dI)) (ci := 12) (v := .int (vi 76)) (C := RX12) (T := TX12) (N := 163) (fs := fM (vS a vi vj)) hx hb hts iwsRX12_readLinear_in12 hown hK hP 0 rfl rfl 76 (by decide) (hts _ hm_r_X12_readLinear_3) (fun _ h9 => h9) rfl dX12_readLinear_38 ?_
        refine lv_topi (fun y8 hy8 => ?_)
        obtain rfl : (nI cR) = y8 := (hy8.trans (hres)).symm
        refine lv_goto (tgt := 83) hx hb dX12_readLinear_41 (by decide) ?_
        have e9 : fT vi 52 (nI nd) = vi := by funext q9; by_cases h9_52 : q9 = 52; (subst h9_52; exact (fT_eq _ _ _).trans (Eq.trans (by first | with_reducible rfl | with_reducible assumption | (symm; with_reducible assumption) | rfl | assumption | (symm; assumption) | (subst_vars; rfl)) (Eq.refl _).symm)); exact (fT_ne _ _ h9_52).trans (Eq.refl _).symm
        have hP := wr_Pi e9 hP
        have hD := wr_Di e9 hD
        clear e9
        have e9 : fT (fT (fT (fT (fT (fT (fT vF 29 (vF 29)) 30 (vF 30)) 31 (vF 31)) 32 (vF 32)) 33 (vF 33)) 34 (vF 34)) 35 (vF 35) = vF := Eq.trans (mv_6 rfl) (Eq.trans (id_6 rfl) (Eq.trans (mv_5 rfl) (Eq.trans (id_5 rfl) (Eq.trans (mv_4 rfl) (Eq.trans (id_4 rfl) (Eq.trans (mv_3 rfl) (Eq.trans (id_3 rfl) (Eq.trans (mv_2 rfl) (Eq.trans (id_2 rfl) (Eq.trans (mv_1 rfl) (Eq.trans (id_1 rfl) (id_0 rfl))))))))))))
        have hP := wr_PF e9 hP
        have hD := wr_DF e9 hD
        clear e9
        have hl : lv_has _ _ ([(0, .ref h0), (1, .int (nI dN))]) := lv_sub hl [0, 1] rfl
        exact join1 _ _ _ _ ⟨cR, gG, nd, (vF 29), (vF 30), (vF 31), (vF 32), (vF 33), (vF 34), (vF 35), hK0, hcR.mono (by omega), by (have hqb : qb = 0 := by (rcases hO2 with h9 | ⟨_, cO, h8, h9⟩); (exact h9.2); (exact absurd (h8.symm.trans c_34) (nIm1 (hRV.lt h9.1)))); omega, rfl, hP, hD, hS, hl⟩
    · rintro H locs ls stk ⟨c3, G3, nd3, a29, a30, a31, a32, a33, a34, a35, hK3, hL3, hn3, rfl, hP, hD, hS, hl⟩
      refine va_iast (cA := k 42) (n := 120) (f := (vF 42)) hx hb hK hP hD hS 43 42 (WR_get 42 (by decide)) (TR_get 42 (by decide)) (vp_in_nI (show dN < 120 by omega) (by omega)) dX12_readLinear_83 (fun H locs hP hD hS => ?_)
      have hP : va_P (dC, dI) vwCl (WR a k h0 (fT vi 52 (nI nd3)) vj (fT (fT (fT (fT (fT (fT (fT (fT vF 29 a29) 30 a30) 31 a31) 32 a32) 33 a33) 34 a34) 35 a35) 42 (upd (vF 42) ((nI dN)).toNatClampNeg (nI c3))) vG) H := fz_w (WR_F 42 (by decide) _ rfl) hP
      have hD : va_D A (WR a k h0 (fT vi 52 (nI nd3)) vj (fT (fT (fT (fT (fT (fT (fT (fT vF 29 a29) 30 a30) 31 a31) 32 a32) 33 a33) 34 a34) 35 a35) 42 (upd (vF 42) ((nI dN)).toNatClampNeg (nI c3))) vG) := fz_wD (WR_F 42 (by decide) _ rfl) hD
      refine lv_aload_n hx hb dX12_readLinear_84 rfl (lv_at hl 0 rfl) ?_
      refine lv_bipush (v := 42) hx hb dX12_readLinear_85 (by decide) ?_
      have hFc := allFree hD hS hA
      refine va_calli (va_runV (As := [.int 42]) (rest := []) ⟨hx, hb, hml, hown, hts⟩ (r_X12_isSign l dC dI a k h0 (fT vi 52 (nI nd3)) vj (fT (fT (fT (fT (fT (fT (fT (fT vF 29 a29) 30 a30) 31 a31) 32 a32) 33 a33) 34 a34) 35 a35) 42 (upd (vF 42) ((nI dN)).toNatClampNeg (nI c3))) vG 42 H.size) (cwV 1 hts gwsRX12_readLinear_1 rfl rfl rfl hd_yX12_isSign_RX12 (by decide +kernel)) (fz_pre (va_recv hK hP (ci := 12) (q0 := 0) rfl rfl) hP hK hD) rfl rfl hl.1 rfl (lv_room (Nat.le_of_ble_eq_true rfl)) dX12_readLinear_87 (by decide +kernel)) hS (fun q _ h => hFc q h) hFc (fun r87 u t9_ H locs ht hvm hw9 hB9 hz1 hk1 hS => ?_)
      have hP : va_P (dC, dI) vwCl (WR a k h0 (fT vi 52 (nI nd3)) vj (fT (fT (fT (fT (fT (fT (fT (fT vF 29 a29) 30 a30) 31 a31) 32 a32) 33 a33) 34 a34) 35 a35) 42 (upd (vF 42) ((nI dN)).toNatClampNeg (nI c3))) vG) H := fz_P ht hB9.1
      have hD := fz_sd hP (hB9.2.weaken (fun _ q _ h => hFc q.1 h)) rfl
      rcases hw9 with ⟨rfl, f87_0, f87_1⟩ | ⟨rfl, f87_0⟩
      · have f87_0 : (vi 18).toInt = 4 := f87_0
        have f87_1 : (vi 20) = 42 := f87_1
        refine lv_if_ne (tgt := 102) hx hb dX12_readLinear_90 (by decide) (fun _ => ?_) (fun c9 => absurd c9 (by decide))
        have hfl : fn < an := hLx.2.2.1.resolve_left (fun h => by first | (rw [h] at f87_0; exact absurd f87_0 (by decide)) | (rw [h] at f96_0; exact absurd f96_0 (by decide)))
        refine lv_aload_n hx hb dX12_readLinear_102 rfl (lv_at hl 0 rfl) ?_
        refine va_get (D := (dC, dI)) (ci := 12) (v := .ref (a 44)) (C := RX12) (T := TX12) (N := 163) (fs := fM (vS a (fT vi 52 (nI nd3)) vj)) hx hb hts iwsRX12_readLinear_in12 hown hK hP 0 rfl rfl 69 (by decide) (hts _ hm_r_X12_readLinear_2) (fun _ h9 => h9) rfl dX12_readLinear_103 ?_
        refine lv_iload_n hx hb dX12_readLinear_106 rfl (lv_at hl 1 rfl) ?_
        refine lv_aload_n hx hb dX12_readLinear_107 rfl (lv_at hl 0 rfl) ?_
        refine va_get (D := (dC, dI)) (ci := 12) (v := .int (vi 20)) (C := RX12) (T := TX12) (N := 163) (fs := fM (vS a (fT vi 52 (nI nd3)) vj)) hx hb hts iwsRX12_readLinear_in12 hown hK hP 0 rfl rfl 20 (by decide) (hts _ hm_r_X12_readLinear_5) (fun _ h9 => h9) rfl dX12_readLinear_108 ?_
        refine va_iast (cA := k 44) (n := 120) (f := (vF 44)) hx hb hK hP hD hS 45 44 (WR_get 44 (by decide)) (TR_get 44 (by decide)) (vp_in_nI (show dN < 120 by omega) (by omega)) dX12_readLinear_111 (fun H locs hP hD hS => ?_)
        have hP : va_P (dC, dI) vwCl (WR a k h0 (fT vi 52 (nI nd3)) vj (fT (fT (fT (fT (fT (fT (fT (fT (fT vF 29 a29) 30 a30) 31 a31) 32 a32) 33 a33) 34 a34) 35 a35) 42 (upd (vF 42) ((nI dN)).toNatClampNeg (nI c3))) 44 (upd (vF 44) ((nI dN)).toNatClampNeg (vi 20))) vG) H := fz_w (WR_F 44 (by decide) _ rfl) hP
        have hD : va_D A (WR a k h0 (fT vi 52 (nI nd3)) vj (fT (fT (fT (fT (fT (fT (fT (fT (fT vF 29 a29) 30 a30) 31 a31) 32 a32) 33 a33) 34 a34) 35 a35) 42 (upd (vF 42) ((nI dN)).toNatClampNeg (nI c3))) 44 (upd (vF 44) ((nI dN)).toNatClampNeg (vi 20))) vG) := fz_wD (WR_F 44 (by decide) _ rfl) hD
        refine lv_aload_n hx hb dX12_readLinear_112 rfl (lv_at hl 0 rfl) ?_
        refine va_get (D := (dC, dI)) (ci := 12) (v := .ref (a 46)) (C := RX12) (T := TX12) (N := 163) (fs := fM (vS a (fT vi 52 (nI nd3)) vj)) hx hb hts iwsRX12_readLinear_in12 hown hK hP 0 rfl rfl 71 (by decide) (hts _ hm_r_X12_readLinear_4) (fun _ h9 => h9) rfl dX12_readLinear_113 ?_
        refine lv_iload_n hx hb dX12_readLinear_116 rfl (lv_at hl 1 rfl) ?_
        refine lv_aload_n hx hb dX12_readLinear_117 rfl (lv_at hl 0 rfl) ?_
        refine va_get (D := (dC, dI)) (ci := 12) (v := .int (vi 19)) (C := RX12) (T := TX12) (N := 163) (fs := fM (vS a (fT vi 52 (nI nd3)) vj)) hx hb hts iwsRX12_readLinear_in12 hown hK hP 0 rfl rfl 19 (by decide) (hts _ hm_r_X12_readLinear_6) (fun _ h9 => h9) rfl dX12_readLinear_118 ?_
        refine lv_topi (fun y9 hy9 => ?_)
        obtain rfl : (nI fn) = y9 := (hy9.trans (hfr)).symm
        refine va_iast (cA := k 46) (n := 120) (f := (vF 46)) hx hb hK hP hD hS 47 46 (WR_get 46 (by decide)) (TR_get 46 (by decide)) (vp_in_nI (show dN < 120 by omega) (by omega)) dX12_readLinear_121 (fun H locs hP hD hS => ?_)
        have hP : va_P (dC, dI) vwCl (WR a k h0 (fT vi 52 (nI nd3)) vj (fT (fT (fT (fT (fT (fT (fT (fT (fT (fT vF 29 a29) 30 a30) 31 a31) 32 a32) 33 a33) 34 a34) 35 a35) 42 (upd (vF 42) ((nI dN)).toNatClampNeg (nI c3))) 44 (upd (vF 44) ((nI dN)).toNatClampNeg (vi 20))) 46 (upd (vF 46) ((nI dN)).toNatClampNeg (nI fn))) vG) H := fz_w (WR_F 46 (by decide) _ rfl) hP
        have hD : va_D A (WR a k h0 (fT vi 52 (nI nd3)) vj (fT (fT (fT (fT (fT (fT (fT (fT (fT (fT vF 29 a29) 30 a30) 31 a31) 32 a32) 33 a33) 34 a34) 35 a35) 42 (upd (vF 42) ((nI dN)).toNatClampNeg (nI c3))) 44 (upd (vF 44) ((nI dN)).toNatClampNeg (vi 20))) 46 (upd (vF 46) ((nI dN)).toNatClampNeg (nI fn))) vG) := fz_wD (WR_F 46 (by decide) _ rfl) hD
        refine lv_aload_n hx hb dX12_readLinear_122 rfl (lv_at hl 0 rfl) ?_
        have hFc := allFree hD hS hA
        refine va_callv (va_runV (As := []) (rest := []) ⟨hx, hb, hml, hown, hts⟩ (r_X12_next l dC dI a k h0 (fT vi 52 (nI nd3)) vj (fT (fT (fT (fT (fT (fT (fT (fT (fT (fT vF 29 a29) 30 a30) 31 a31) 32 a32) 33 a33) 34 a34) 35 a35) 42 (upd (vF 42) ((nI dN)).toNatClampNeg (nI c3))) 44 (upd (vF 44) ((nI dN)).toNatClampNeg (vi 20))) 46 (upd (vF 46) ((nI dN)).toNatClampNeg (nI fn))) vG tp an hTp (by first | with_reducible assumption | decide | omega | rfl | assumption) ha0 (by first | with_reducible assumption | decide | omega | rfl | assumption) H.size) (cwV 0 hts gwsRX12_readLinear_2 rfl rfl rfl hd_yX12_next_RX12 (by decide +kernel)) (fz_preE (va_recv hK hP (ci := 12) (q0 := 0) rfl rfl) hP hK hD (fun a U g mk qE => qE.same rfl) (fun U hU9 hW => by rw [hU9]; exact (((hE : StrA A s s.heap).kept hS.2.1).narrow (fun q h => hFc q h)).warm hW)) rfl rfl hl.1 rfl (lv_room (Nat.le_of_ble_eq_true rfl)) dX12_readLinear_123 (by decide +kernel)) hS (fun q _ h => hFc q h) hFc (fun u t9_ H locs ht hvm hw9 hB9 hz1 hk1 hS => ?_)
        revert u hw9 hB9
        refine fz_p4 ?_
        intro a2123 f2123 sg123 wd123 hw9 hB9
        try dsimp only at hw9 hB9
        have hP : va_P (dC, dI) vwCl (WR a k h0 (fT (fT (fT (fT (fT vi 52 (nI nd3)) 17 (nI a2123)) 19 (nI f2123)) 20 sg123) 18 wd123) vj (fT (fT (fT (fT (fT (fT (fT (fT (fT (fT vF 29 a29) 30 a30) 31 a31) 32 a32) 33 a33) 34 a34) 35 a35) 42 (upd (vF 42) ((nI dN)).toNatClampNeg (nI c3))) 44 (upd (vF 44) ((nI dN)).toNatClampNeg (vi 20))) 46 (upd (vF 46) ((nI dN)).toNatClampNeg (nI fn))) vG) H := fz_P ht hB9.1
        have hD := fz_sd hP (hB9.2.weaken (fun _ q _ h => hFc q.1 h)) rfl
        revert hw9
        refine fz_a2 ?_
        intro f123_0 f123_1
        have hl1 := f123_0.1
        have hl2 := f123_0.2.1
        refine lv_aload_n hx hb dX12_readLinear_126 rfl (lv_at hl 0 rfl) ?_
        refine lv_iconst (v := 1) hx hb dX12_readLinear_127 (by decide) ?_
        have hFc := allFree hD hS hA
        refine va_callv (va_runV (As := [.int 1]) (rest := []) ⟨hx, hb, hml, hown, hts⟩ (r_X12_begin1 l dC dI a k h0 (fT (fT (fT (fT (fT vi 52 (nI nd3)) 17 (nI a2123)) 19 (nI f2123)) 20 sg123) 18 wd123) vj (fT (fT (fT (fT (fT (fT (fT (fT (fT (fT vF 29 a29) 30 a30) 31 a31) 32 a32) 33 a33) 34 a34) 35 a35) 42 (upd (vF 42) ((nI dN)).toNatClampNeg (nI c3))) 44 (upd (vF 44) ((nI dN)).toNatClampNeg (vi 20))) 46 (upd (vF 46) ((nI dN)).toNatClampNeg (nI fn))) vG 1 tp a2123 f2123 nm se pa va bd (dN + 1) wi hTp (by first | with_reducible assumption | decide | omega | rfl | assumption) rfl rfl (f123_0) (by first | with_reducible assumption | decide | omega | rfl | assumption) hnm (by first | with_reducible assumption | decide | omega | rfl | assumption) (by first | with_reducible assumption | decide | omega | rfl | assumption) (by first | with_reducible assumption | decide | omega | rfl | assumption) hbd (by first | with_reducible assumption | decide | omega | rfl | assumption) (by first | with_reducible assumption | decide | omega | rfl | assumption) (hdp) (by first | with_reducible assumption | decide | omega | rfl | assumption) hwi (by first | with_reducible assumption | decide | omega | rfl | assumption) H.size) (cwV 1 hts gwsRX12_readLinear_3 rfl rfl rfl hd_yX12_begin1_RX12 (by decide +kernel)) (fz_pre (va_recv hK hP (ci := 12) (q0 := 0) rfl rfl) hP hK hD) rfl rfl hl.1 rfl (lv_room (Nat.le_of_ble_eq_true rfl)) dX12_readLinear_128 (by decide +kernel)) hS (fun q _ h => hFc q h) hFc (fun u t9_ H locs ht hvm hw9 hB9 hz1 hk1 hS => ?_)
        revert u hw9 hB9
        refine fz_p10 ?_
        intro s2128 p2128 g39128 g40128 g41128 g42128 g47128 g48128 d2128 w2128 hw9 hB9
        try dsimp only at hw9 hB9
        have e9F : fT (fT (fT (fT (fT (fT (fT (fT (fT (fT (fT (fT (fT (fT (fT vF 29 a29) 30 a30) 31 a31) 32 a32) 33 a33) 34 a34) 35 a35) 42 g42128) 44 (upd (vF 44) ((nI dN)).toNatClampNeg (vi 20))) 46 (upd (vF 46) ((nI dN)).toNatClampNeg (nI fn))) 39 g39128) 40 g40128) 41 g41128) 47 g47128) 48 g48128 = fT (fT (fT (fT (fT (fT (fT (fT (fT (fT (fT (fT (fT (fT (fT (fT vF 29 a29) 30 a30) 31 a31) 32 a32) 33 a33) 34 a34) 35 a35) 42 (upd (vF 42) ((nI dN)).toNatClampNeg (nI c3))) 44 (upd (vF 44) ((nI dN)).toNatClampNeg (vi 20))) 46 (upd (vF 46) ((nI dN)).toNatClampNeg (nI fn))) 39 g39128) 40 g40128) 41 g41128) 42 g42128) 47 g47128) 48 g48128 := Eq.symm (congrArg (fun g9 => fT (fT g9 47 g47128) 48 g48128) (up_5 rfl))
        have hP := wr_PF e9F (fz_P ht hB9.1)
        have hD := wr_DF e9F (hB9.2.weaken (fun _ q _ h => hFc q.1 h))
        clear e9F
        revert hw9
        refine fz_a4 ?_
        intro f128_0 f128_1 f128_2 f128_3
        have f128_1 : 0 < (s2128).toInt ∨ (s2128 = (vi 21) ∧ BgO 1 wd123 sg123 g39128 g40128 g41128 g42128 g48128 (dN + 1) wi d2128 w2128) := f128_1
        have f128_2 : FrmO (dN + 1) (vF 39) (vF 40) (vF 41) (upd (vF 42) ((nI dN)).toNatClampNeg (nI c3)) (vF 48) g39128 g40128 g41128 g42128 g48128 := f128_2
        refine W.widen (k := 0) (n := 0) (by decide +kernel) (by decide +kernel) ?_
        have e9 : fT (fT (fT (fT (fT (fT (fT (fT (fT (fT (fT vi 52 (nI nd3)) 17 (nI a2123)) 19 (nI f2123)) 20 sg123) 18 wd123) 75 (nI w2128)) 74 (nI d2128)) 21 s2128) 22 p2128) 76 (vi 76)) 77 (vi 77) = fT (fT (fT (fT (fT (fT (fT (fT (fT vi 52 (nI nd3)) 17 (nI a2123)) 19 (nI f2123)) 20 sg123) 18 wd123) 75 (nI w2128)) 74 (nI d2128)) 21 s2128) 22 p2128 := Eq.trans (mv_1 rfl) (Eq.trans (id_10 rfl) (id_9 rfl))
        have hP := wr_Pi e9 hP
        have hD := wr_Di e9 hD
        clear e9
        have e9 : fT (fT (fT (fT (fT (fT (fT (fT (fT (fT (fT (fT (fT (fT (fT (fT (fT vF 29 a29) 30 a30) 31 a31) 32 a32) 33 a33) 34 a34) 35 a35) 42 g42128) 44 (upd (vF 44) ((nI dN)).toNatClampNeg (vi 20))) 46 (upd (vF 46) ((nI dN)).toNatClampNeg (nI fn))) 39 g39128) 40 g40128) 41 g41128) 47 g47128) 48 g48128) 43 (vF 43)) 45 (vF 45) = fT (fT (fT (fT (fT (fT (fT (fT (fT (fT (fT (fT (fT (fT (fT vF 29 a29) 30 a30) 31 a31) 32 a32) 33 a33) 34 a34) 35 a35) 42 g42128) 44 (upd (vF 44) ((nI dN)).toNatClampNeg (vi 20))) 46 (upd (vF 46) ((nI dN)).toNatClampNeg (nI fn))) 39 g39128) 40 g40128) 41 g41128) 47 g47128) 48 g48128 := Eq.trans (mv_1 rfl) (Eq.trans (id_16 rfl) (id_15 rfl))
        have hP := wr_PF e9 hP
        have hD := wr_DF e9 hD
        clear e9
        exact W.vret hx hb hr (fun t9_ ht hW => ⟨⟨(a2123, f2123, sg123, wd123, s2128, p2128, a29, a30, a31, a32, a33, a34, a35, g39128, g40128, g41128, g42128, (vF 43), (upd (vF 44) ((nI dN)).toNatClampNeg (vi 20)), (vF 45), (upd (vF 46) ((nI dN)).toNatClampNeg (nI fn)), g47128, g48128, d2128, w2128, nd3, (vi 76), (vi 77), G3), rfl, by (try dsimp only); exact ⟨f123_0, by omega, f128_0, by rcases f128_1 with h9 | h9; (exact Or.inl h9); (exact Or.inr ⟨RdS.push (gm := gl) hK3.1 hBel hK3.2.1 (Nat.le_refl _) (fun q hq => ⟨rfl, rfl, rfl, by rw [upd_at (by omega), if_neg (by omega)], rfl⟩) h39 (by decide) h48 (by omega) ⟨⟨by omega, fun _ => by omega, fun h8 => absurd h8 (by decide), Nat.le_refl _⟩, Or.inl ⟨rfl, rfl, hq0, rfl, rfl, qa, 1, hK3.2.1.opL hO1, Or.inr ⟨rfl, c3, by rw [upd_at (by omega), if_pos rfl], hL3⟩, rfl⟩⟩ f128_2 (by rw [← hwc]; exact h9.2) (show (1 : Int32) = nI 1 by decide) (by decide) (by omega) (by omega) (by omega) (by omega) hK3.2.2.2 (by show 10 * (4000 - _) + dN + 1 + 1 ≤ mM - 1; omega), hK3.2.1.less (Nat.zero_le _)⟩), by omega⟩, by rw [ht]; exact hP, hD⟩, hS.F ht⟩) hS.2.2 dX12_readLinear_131
      · have f87_0 : ¬ ((vi 18).toInt = 4 ∧ (vi 20) = 42) := f87_0
        refine lv_if_ne (tgt := 102) hx hb dX12_readLinear_90 (by decide) (fun c9 => absurd c9 (by decide)) (fun _ => ?_)
        refine lv_aload_n hx hb dX12_readLinear_93 rfl (lv_at hl 0 rfl) ?_
        refine lv_bipush (v := 47) hx hb dX12_readLinear_94 (by decide) ?_
        have hFc := allFree hD hS hA
        refine va_calli (va_runV (As := [.int 47]) (rest := []) ⟨hx, hb, hml, hown, hts⟩ (r_X12_isSign l dC dI a k h0 (fT vi 52 (nI nd3)) vj (fT (fT (fT (fT (fT (fT (fT (fT vF 29 a29) 30 a30) 31 a31) 32 a32) 33 a33) 34 a34) 35 a35) 42 (upd (vF 42) ((nI dN)).toNatClampNeg (nI c3))) vG 47 H.size) (cwV 1 hts gwsRX12_readLinear_1 rfl rfl rfl hd_yX12_isSign_RX12 (by decide +kernel)) (fz_pre (va_recv hK hP (ci := 12) (q0 := 0) rfl rfl) hP hK hD) rfl rfl hl.1 rfl (lv_room (Nat.le_of_ble_eq_true rfl)) dX12_readLinear_96 (by decide +kernel)) hS (fun q _ h => hFc q h) hFc (fun r96 u t9_ H locs ht hvm hw9 hB9 hz1 hk1 hS => ?_)
        have hP : va_P (dC, dI) vwCl (WR a k h0 (fT vi 52 (nI nd3)) vj (fT (fT (fT (fT (fT (fT (fT (fT vF 29 a29) 30 a30) 31 a31) 32 a32) 33 a33) 34 a34) 35 a35) 42 (upd (vF 42) ((nI dN)).toNatClampNeg (nI c3))) vG) H := fz_P ht hB9.1
        have hD := fz_sd hP (hB9.2.weaken (fun _ q _ h => hFc q.1 h)) rfl
        rcases hw9 with ⟨rfl, f96_0, f96_1⟩ | ⟨rfl, f96_0⟩
        · have f96_0 : (vi 18).toInt = 4 := f96_0
          have f96_1 : (vi 20) = 47 := f96_1
          refine lv_if_eq (tgt := 132) hx hb dX12_readLinear_99 (by decide) (fun c9 => absurd c9 (by decide)) (fun _ => ?_)
          have hfl : fn < an := hLx.2.2.1.resolve_left (fun h => by first | (rw [h] at f87_0; exact absurd f87_0 (by decide)) | (rw [h] at f96_0; exact absurd f96_0 (by decide)))
          refine lv_aload_n hx hb dX12_readLinear_102 rfl (lv_at hl 0 rfl) ?_
          refine va_get (D := (dC, dI)) (ci := 12) (v := .ref (a 44)) (C := RX12) (T := TX12) (N := 163) (fs := fM (vS a (fT vi 52 (nI nd3)) vj)) hx hb hts iwsRX12_readLinear_in12 hown hK hP 0 rfl rfl 69 (by decide) (hts _ hm_r_X12_readLinear_2) (fun _ h9 => h9) rfl dX12_readLinear_103 ?_
          refine lv_iload_n hx hb dX12_readLinear_106 rfl (lv_at hl 1 rfl) ?_
          refine lv_aload_n hx hb dX12_readLinear_107 rfl (lv_at hl 0 rfl) ?_
          refine va_get (D := (dC, dI)) (ci := 12) (v := .int (vi 20)) (C := RX12) (T := TX12) (N := 163) (fs := fM (vS a (fT vi 52 (nI nd3)) vj)) hx hb hts iwsRX12_readLinear_in12 hown hK hP 0 rfl rfl 20 (by decide) (hts _ hm_r_X12_readLinear_5) (fun _ h9 => h9) rfl dX12_readLinear_108 ?_
          refine va_iast (cA := k 44) (n := 120) (f := (vF 44)) hx hb hK hP hD hS 45 44 (WR_get 44 (by decide)) (TR_get 44 (by decide)) (vp_in_nI (show dN < 120 by omega) (by omega)) dX12_readLinear_111 (fun H locs hP hD hS => ?_)
          have hP : va_P (dC, dI) vwCl (WR a k h0 (fT vi 52 (nI nd3)) vj (fT (fT (fT (fT (fT (fT (fT (fT (fT vF 29 a29) 30 a30) 31 a31) 32 a32) 33 a33) 34 a34) 35 a35) 42 (upd (vF 42) ((nI dN)).toNatClampNeg (nI c3))) 44 (upd (vF 44) ((nI dN)).toNatClampNeg (vi 20))) vG) H := fz_w (WR_F 44 (by decide) _ rfl) hP
          have hD : va_D A (WR a k h0 (fT vi 52 (nI nd3)) vj (fT (fT (fT (fT (fT (fT (fT (fT (fT vF 29 a29) 30 a30) 31 a31) 32 a32) 33 a33) 34 a34) 35 a35) 42 (upd (vF 42) ((nI dN)).toNatClampNeg (nI c3))) 44 (upd (vF 44) ((nI dN)).toNatClampNeg (vi 20))) vG) := fz_wD (WR_F 44 (by decide) _ rfl) hD
          refine lv_aload_n hx hb dX12_readLinear_112 rfl (lv_at hl 0 rfl) ?_
          refine va_get (D := (dC, dI)) (ci := 12) (v := .ref (a 46)) (C := RX12) (T := TX12) (N := 163) (fs := fM (vS a (fT vi 52 (nI nd3)) vj)) hx hb hts iwsRX12_readLinear_in12 hown hK hP 0 rfl rfl 71 (by decide) (hts _ hm_r_X12_readLinear_4) (fun _ h9 => h9) rfl dX12_readLinear_113 ?_
          refine lv_iload_n hx hb dX12_readLinear_116 rfl (lv_at hl 1 rfl) ?_
          refine lv_aload_n hx hb dX12_readLinear_117 rfl (lv_at hl 0 rfl) ?_
          refine va_get (D := (dC, dI)) (ci := 12) (v := .int (vi 19)) (C := RX12) (T := TX12) (N := 163) (fs := fM (vS a (fT vi 52 (nI nd3)) vj)) hx hb hts iwsRX12_readLinear_in12 hown hK hP 0 rfl rfl 19 (by decide) (hts _ hm_r_X12_readLinear_6) (fun _ h9 => h9) rfl dX12_readLinear_118 ?_
          refine lv_topi (fun y10 hy10 => ?_)
          obtain rfl : (nI fn) = y10 := (hy10.trans (hfr)).symm
          refine va_iast (cA := k 46) (n := 120) (f := (vF 46)) hx hb hK hP hD hS 47 46 (WR_get 46 (by decide)) (TR_get 46 (by decide)) (vp_in_nI (show dN < 120 by omega) (by omega)) dX12_readLinear_121 (fun H locs hP hD hS => ?_)
          have hP : va_P (dC, dI) vwCl (WR a k h0 (fT vi 52 (nI nd3)) vj (fT (fT (fT (fT (fT (fT (fT (fT (fT (fT vF 29 a29) 30 a30) 31 a31) 32 a32) 33 a33) 34 a34) 35 a35) 42 (upd (vF 42) ((nI dN)).toNatClampNeg (nI c3))) 44 (upd (vF 44) ((nI dN)).toNatClampNeg (vi 20))) 46 (upd (vF 46) ((nI dN)).toNatClampNeg (nI fn))) vG) H := fz_w (WR_F 46 (by decide) _ rfl) hP
          have hD : va_D A (WR a k h0 (fT vi 52 (nI nd3)) vj (fT (fT (fT (fT (fT (fT (fT (fT (fT (fT vF 29 a29) 30 a30) 31 a31) 32 a32) 33 a33) 34 a34) 35 a35) 42 (upd (vF 42) ((nI dN)).toNatClampNeg (nI c3))) 44 (upd (vF 44) ((nI dN)).toNatClampNeg (vi 20))) 46 (upd (vF 46) ((nI dN)).toNatClampNeg (nI fn))) vG) := fz_wD (WR_F 46 (by decide) _ rfl) hD
          refine lv_aload_n hx hb dX12_readLinear_122 rfl (lv_at hl 0 rfl) ?_
          have hFc := allFree hD hS hA
          refine va_callv (va_runV (As := []) (rest := []) ⟨hx, hb, hml, hown, hts⟩ (r_X12_next l dC dI a k h0 (fT vi 52 (nI nd3)) vj (fT (fT (fT (fT (fT (fT (fT (fT (fT (fT vF 29 a29) 30 a30) 31 a31) 32 a32) 33 a33) 34 a34) 35 a35) 42 (upd (vF 42) ((nI dN)).toNatClampNeg (nI c3))) 44 (upd (vF 44) ((nI dN)).toNatClampNeg (vi 20))) 46 (upd (vF 46) ((nI dN)).toNatClampNeg (nI fn))) vG tp an hTp (by first | with_reducible assumption | decide | omega | rfl | assumption) ha0 (by first | with_reducible assumption | decide | omega | rfl | assumption) H.size) (cwV 0 hts gwsRX12_readLinear_2 rfl rfl rfl hd_yX12_next_RX12 (by decide +kernel)) (fz_preE (va_recv hK hP (ci := 12) (q0 := 0) rfl rfl) hP hK hD (fun a U g mk qE => qE.same rfl) (fun U hU9 hW => by rw [hU9]; exact (((hE : StrA A s s.heap).kept hS.2.1).narrow (fun q h => hFc q h)).warm hW)) rfl rfl hl.1 rfl (lv_room (Nat.le_of_ble_eq_true rfl)) dX12_readLinear_123 (by decide +kernel)) hS (fun q _ h => hFc q h) hFc (fun u t9_ H locs ht hvm hw9 hB9 hz1 hk1 hS => ?_)
          revert u hw9 hB9
          refine fz_p4 ?_
          intro a2123_1 f2123_1 sg123_1 wd123_1 hw9 hB9
          try dsimp only at hw9 hB9
          have hP : va_P (dC, dI) vwCl (WR a k h0 (fT (fT (fT (fT (fT vi 52 (nI nd3)) 17 (nI a2123_1)) 19 (nI f2123_1)) 20 sg123_1) 18 wd123_1) vj (fT (fT (fT (fT (fT (fT (fT (fT (fT (fT vF 29 a29) 30 a30) 31 a31) 32 a32) 33 a33) 34 a34) 35 a35) 42 (upd (vF 42) ((nI dN)).toNatClampNeg (nI c3))) 44 (upd (vF 44) ((nI dN)).toNatClampNeg (vi 20))) 46 (upd (vF 46) ((nI dN)).toNatClampNeg (nI fn))) vG) H := fz_P ht hB9.1
          have hD := fz_sd hP (hB9.2.weaken (fun _ q _ h => hFc q.1 h)) rfl
          revert hw9
          refine fz_a2 ?_
          intro f123_1_0 f123_1_1
          have hl1 := f123_1_0.1
          have hl2 := f123_1_0.2.1
          refine lv_aload_n hx hb dX12_readLinear_126 rfl (lv_at hl 0 rfl) ?_
          refine lv_iconst (v := 1) hx hb dX12_readLinear_127 (by decide) ?_
          have hFc := allFree hD hS hA
          refine va_callv (va_runV (As := [.int 1]) (rest := []) ⟨hx, hb, hml, hown, hts⟩ (r_X12_begin1 l dC dI a k h0 (fT (fT (fT (fT (fT vi 52 (nI nd3)) 17 (nI a2123_1)) 19 (nI f2123_1)) 20 sg123_1) 18 wd123_1) vj (fT (fT (fT (fT (fT (fT (fT (fT (fT (fT vF 29 a29) 30 a30) 31 a31) 32 a32) 33 a33) 34 a34) 35 a35) 42 (upd (vF 42) ((nI dN)).toNatClampNeg (nI c3))) 44 (upd (vF 44) ((nI dN)).toNatClampNeg (vi 20))) 46 (upd (vF 46) ((nI dN)).toNatClampNeg (nI fn))) vG 1 tp a2123_1 f2123_1 nm se pa va bd (dN + 1) wi hTp (by first | with_reducible assumption | decide | omega | rfl | assumption) rfl rfl (f123_1_0) (by first | with_reducible assumption | decide | omega | rfl | assumption) hnm (by first | with_reducible assumption | decide | omega | rfl | assumption) (by first | with_reducible assumption | decide | omega | rfl | assumption) (by first | with_reducible assumption | decide | omega | rfl | assumption) hbd (by first | with_reducible assumption | decide | omega | rfl | assumption) (by first | with_reducible assumption | decide | omega | rfl | assumption) (hdp) (by first | with_reducible assumption | decide | omega | rfl | assumption) hwi (by first | with_reducible assumption | decide | omega | rfl | assumption) H.size) (cwV 1 hts gwsRX12_readLinear_3 rfl rfl rfl hd_yX12_begin1_RX12 (by decide +kernel)) (fz_pre (va_recv hK hP (ci := 12) (q0 := 0) rfl rfl) hP hK hD) rfl rfl hl.1 rfl (lv_room (Nat.le_of_ble_eq_true rfl)) dX12_readLinear_128 (by decide +kernel)) hS (fun q _ h => hFc q h) hFc (fun u t9_ H locs ht hvm hw9 hB9 hz1 hk1 hS => ?_)
          revert u hw9 hB9
          refine fz_p10 ?_
          intro s2128_1 p2128_1 g39128_1 g40128_1 g41128_1 g42128_1 g47128_1 g48128_1 d2128_1 w2128_1 hw9 hB9
          try dsimp only at hw9 hB9
          have e9F : fT (fT (fT (fT (fT (fT (fT (fT (fT (fT (fT (fT (fT (fT (fT vF 29 a29) 30 a30) 31 a31) 32 a32) 33 a33) 34 a34) 35 a35) 42 g42128_1) 44 (upd (vF 44) ((nI dN)).toNatClampNeg (vi 20))) 46 (upd (vF 46) ((nI dN)).toNatClampNeg (nI fn))) 39 g39128_1) 40 g40128_1) 41 g41128_1) 47 g47128_1) 48 g48128_1 = fT (fT (fT (fT (fT (fT (fT (fT (fT (fT (fT (fT (fT (fT (fT (fT vF 29 a29) 30 a30) 31 a31) 32 a32) 33 a33) 34 a34) 35 a35) 42 (upd (vF 42) ((nI dN)).toNatClampNeg (nI c3))) 44 (upd (vF 44) ((nI dN)).toNatClampNeg (vi 20))) 46 (upd (vF 46) ((nI dN)).toNatClampNeg (nI fn))) 39 g39128_1) 40 g40128_1) 41 g41128_1) 42 g42128_1) 47 g47128_1) 48 g48128_1 := Eq.symm (congrArg (fun g9 => fT (fT g9 47 g47128_1) 48 g48128_1) (up_5 rfl))
          have hP := wr_PF e9F (fz_P ht hB9.1)
          have hD := wr_DF e9F (hB9.2.weaken (fun _ q _ h => hFc q.1 h))
          clear e9F
          revert hw9
          refine fz_a4 ?_
          intro f128_1_0 f128_1_1 f128_1_2 f128_1_3
          have f128_1_1 : 0 < (s2128_1).toInt ∨ (s2128_1 = (vi 21) ∧ BgO 1 wd123_1 sg123_1 g39128_1 g40128_1 g41128_1 g42128_1 g48128_1 (dN + 1) wi d2128_1 w2128_1) := f128_1_1
          have f128_1_2 : FrmO (dN + 1) (vF 39) (vF 40) (vF 41) (upd (vF 42) ((nI dN)).toNatClampNeg (nI c3)) (vF 48) g39128_1 g40128_1 g41128_1 g42128_1 g48128_1 := f128_1_2
          refine W.widen (k := 0) (n := 0) (by decide +kernel) (by decide +kernel) ?_
          have e9 : fT (fT (fT (fT (fT (fT (fT (fT (fT (fT (fT vi 52 (nI nd3)) 17 (nI a2123_1)) 19 (nI f2123_1)) 20 sg123_1) 18 wd123_1) 75 (nI w2128_1)) 74 (nI d2128_1)) 21 s2128_1) 22 p2128_1) 76 (vi 76)) 77 (vi 77) = fT (fT (fT (fT (fT (fT (fT (fT (fT vi 52 (nI nd3)) 17 (nI a2123_1)) 19 (nI f2123_1)) 20 sg123_1) 18 wd123_1) 75 (nI w2128_1)) 74 (nI d2128_1)) 21 s2128_1) 22 p2128_1 := Eq.trans (mv_1 rfl) (Eq.trans (id_10 rfl) (id_9 rfl))
          have hP := wr_Pi e9 hP
          have hD := wr_Di e9 hD
          clear e9
          have e9 : fT (fT (fT (fT (fT (fT (fT (fT (fT (fT (fT (fT (fT (fT (fT (fT (fT vF 29 a29) 30 a30) 31 a31) 32 a32) 33 a33) 34 a34) 35 a35) 42 g42128_1) 44 (upd (vF 44) ((nI dN)).toNatClampNeg (vi 20))) 46 (upd (vF 46) ((nI dN)).toNatClampNeg (nI fn))) 39 g39128_1) 40 g40128_1) 41 g41128_1) 47 g47128_1) 48 g48128_1) 43 (vF 43)) 45 (vF 45) = fT (fT (fT (fT (fT (fT (fT (fT (fT (fT (fT (fT (fT (fT (fT vF 29 a29) 30 a30) 31 a31) 32 a32) 33 a33) 34 a34) 35 a35) 42 g42128_1) 44 (upd (vF 44) ((nI dN)).toNatClampNeg (vi 20))) 46 (upd (vF 46) ((nI dN)).toNatClampNeg (nI fn))) 39 g39128_1) 40 g40128_1) 41 g41128_1) 47 g47128_1) 48 g48128_1 := Eq.trans (mv_1 rfl) (Eq.trans (id_16 rfl) (id_15 rfl))
          have hP := wr_PF e9 hP
          have hD := wr_DF e9 hD
          clear e9
          exact W.vret hx hb hr (fun t9_ ht hW => ⟨⟨(a2123_1, f2123_1, sg123_1, wd123_1, s2128_1, p2128_1, a29, a30, a31, a32, a33, a34, a35, g39128_1, g40128_1, g41128_1, g42128_1, (vF 43), (upd (vF 44) ((nI dN)).toNatClampNeg (vi 20)), (vF 45), (upd (vF 46) ((nI dN)).toNatClampNeg (nI fn)), g47128_1, g48128_1, d2128_1, w2128_1, nd3, (vi 76), (vi 77), G3), rfl, by (try dsimp only); exact ⟨f123_1_0, by omega, f128_1_0, by rcases f128_1_1 with h9 | h9; (exact Or.inl h9); (exact Or.inr ⟨RdS.push (gm := gl) hK3.1 hBel hK3.2.1 (Nat.le_refl _) (fun q hq => ⟨rfl, rfl, rfl, by rw [upd_at (by omega), if_neg (by omega)], rfl⟩) h39 (by decide) h48 (by omega) ⟨⟨by omega, fun _ => by omega, fun h8 => absurd h8 (by decide), Nat.le_refl _⟩, Or.inl ⟨rfl, rfl, hq0, rfl, rfl, qa, 1, hK3.2.1.opL hO1, Or.inr ⟨rfl, c3, by rw [upd_at (by omega), if_pos rfl], hL3⟩, rfl⟩⟩ f128_1_2 (by rw [← hwc]; exact h9.2) (show (1 : Int32) = nI 1 by decide) (by decide) (by omega) (by omega) (by omega) (by omega) hK3.2.2.2 (by show 10 * (4000 - _) + dN + 1 + 1 ≤ mM - 1; omega), hK3.2.1.less (Nat.zero_le _)⟩), by omega⟩, by rw [ht]; exact hP, hD⟩, hS.F ht⟩) hS.2.2 dX12_readLinear_131
        · have f96_0 : ¬ ((vi 18).toInt = 4 ∧ (vi 20) = 47) := f96_0
          refine lv_if_eq (tgt := 132) hx hb dX12_readLinear_99 (by decide) (fun _ => ?_) (fun c9 => absurd (by decide) c9)
          refine lv_aload_n hx hb dX12_readLinear_132 rfl (lv_at hl 0 rfl) ?_
          refine va_get (D := (dC, dI)) (ci := 12) (v := .ref (a 41)) (C := RX12) (T := TX12) (N := 163) (fs := fM (vS a (fT vi 52 (nI nd3)) vj)) hx hb hts iwsRX12_readLinear_in12 hown hK hP 0 rfl rfl 66 (by decide) (hts _ hm_r_X12_readLinear_7) (fun _ h9 => h9) rfl dX12_readLinear_133 ?_
          refine lv_iload_n hx hb dX12_readLinear_136 rfl (lv_at hl 1 rfl) ?_
          refine lv_aload_n hx hb dX12_readLinear_137 rfl (lv_at hl 0 rfl) ?_
          refine va_get (D := (dC, dI)) (ci := 12) (v := .ref (a 41)) (C := RX12) (T := TX12) (N := 163) (fs := fM (vS a (fT vi 52 (nI nd3)) vj)) hx hb hts iwsRX12_readLinear_in12 hown hK hP 0 rfl rfl 66 (by decide) (hts _ hm_r_X12_readLinear_7) (fun _ h9 => h9) rfl dX12_readLinear_138 ?_
          refine lv_iload_n hx hb dX12_readLinear_141 rfl (lv_at hl 1 rfl) ?_
          refine va_iald (cA := k 41) (n := 120) (f := (vF 41)) hx hb hK hP 42 41 (WR_get 41 (by decide)) (TR_get 41 (by decide)) (vp_in_nI (show dN < 120 by omega) (by omega)) dX12_readLinear_142 ?_
          refine lv_topi (fun y11 hy11 => ?_)
          obtain rfl : ((vF 41) dN) = y11 := (hy11.trans (by rw [nI_clamp (by omega)])).symm
          refine lv_iconst (v := (-1)) hx hb dX12_readLinear_143 (by decide) ?_
          refine W.cut (pc := 196) (fun H locs ls stk => ∃ (c1 : Nat) (G4 : RG) (nd4 : Nat) (b29 : Nat → Int32) (b30 : Nat → Int32) (b31 : Nat → Int32) (b32 : Nat → Int32) (b33 : Nat → Int32) (b34 : Nat → Int32) (b35 : Nat → Int32), (RdK tT gG (vF 29) (vF 30) (vF 31) (vF 32) (vF 36) (vF 37) (vF 38) G4 b29 b30 b31 b32 (vF 36) (vF 37) (vF 38) se nd4 bs gl) ∧ (LinO G4 b29 c1 (51 - 2 * (cw + xe))) ∧ (nd4 + pe ≤ fn ∧ G4.vN + un ≤ nd4) ∧  stk = [.int (nI c1), .int (nI dN), .ref (a 41)] ∧ va_P (dC, dI) vwCl (WR a k h0 (fT vi 52 (nI nd4)) vj (fT (fT (fT (fT (fT (fT (fT (fT vF 29 b29) 30 b30) 31 b31) 32 b32) 33 b33) 34 b34) 35 b35) 42 (upd (vF 42) ((nI dN)).toNatClampNeg (nI c3))) vG) H ∧ va_D A (WR a k h0 (fT vi 52 (nI nd4)) vj (fT (fT (fT (fT (fT (fT (fT (fT vF 29 b29) 30 b30) 31 b31) 32 b32) 33 b33) 34 b34) 35 b35) 42 (upd (vF 42) ((nI dN)).toNatClampNeg (nI c3))) vG) ∧ va_S A s.heap H locs ∧ lv_has ls 2 [(0, .ref h0), (1, .int (nI dN))]) (fun join3 => ?_) ?_
          · refine lv_icmp_ne (tgt := 156) hx hb dX12_readLinear_144 (by decide) (fun c_144 => ?_) (fun c_144 => ?_)
            · have t_144 : (((vF 41) dN)).toInt ≠ -1 := toI_ne c_144 rfl (by decide)
              obtain ⟨ha1, cP, hcP, hcPL⟩ := hO1.resolve_left (fun h => c_144 h.1)
              refine lv_aload_n hx hb dX12_readLinear_156 rfl (lv_at hl 0 rfl) ?_
              refine lv_aload_n hx hb dX12_readLinear_157 rfl (lv_at hl 0 rfl) ?_
              refine va_get (D := (dC, dI)) (ci := 12) (v := .ref (a 43)) (C := RX12) (T := TX12) (N := 163) (fs := fM (vS a (fT vi 52 (nI nd3)) vj)) hx hb hts iwsRX12_readLinear_in12 hown hK hP 0 rfl rfl 68 (by decide) (hts _ hm_r_X12_readLinear_8) (fun _ h9 => h9) rfl dX12_readLinear_158 ?_
              refine lv_iload_n hx hb dX12_readLinear_161 rfl (lv_at hl 1 rfl) ?_
              refine va_iald (cA := k 43) (n := 120) (f := (vF 43)) hx hb hK hP 44 43 (WR_get 43 (by decide)) (TR_get 43 (by decide)) (vp_in_nI (show dN < 120 by omega) (by omega)) dX12_readLinear_162 ?_
              refine lv_topi (fun y12 hy12 => ?_)
              obtain rfl : ((vF 43) dN) = y12 := (hy12.trans (by rw [nI_clamp (by omega)])).symm
              refine lv_bipush (v := 43) hx hb dX12_readLinear_163 (by decide) ?_
              refine W.cut (pc := 174) (fun H locs ls stk => ∃ (kz : Int32), (∃ k, kz = nI k ∧ 5 ≤ k ∧ k ≤ 8) ∧  stk = [.int kz, .ref h0, .int (nI dN), .ref (a 41)] ∧ va_P (dC, dI) vwCl (WR a k h0 (fT vi 52 (nI nd3)) vj (fT (fT (fT (fT (fT (fT (fT (fT vF 29 a29) 30 a30) 31 a31) 32 a32) 33 a33) 34 a34) 35 a35) 42 (upd (vF 42) ((nI dN)).toNatClampNeg (nI c3))) vG) H ∧ va_D A (WR a k h0 (fT vi 52 (nI nd3)) vj (fT (fT (fT (fT (fT (fT (fT (fT vF 29 a29) 30 a30) 31 a31) 32 a32) 33 a33) 34 a34) 35 a35) 42 (upd (vF 42) ((nI dN)).toNatClampNeg (nI c3))) vG) ∧ va_S A s.heap H locs ∧ lv_has ls 2 [(0, .ref h0), (1, .int (nI dN))]) (fun join4 => ?_) ?_
              · refine lv_icmp_ne (tgt := 172) hx hb dX12_readLinear_165 (by decide) (fun c_165 => ?_) (fun c_165 => ?_)
                · have t_165 : (((vF 43) dN)).toInt ≠ 43 := toI_ne c_165 rfl (by decide)
                  refine lv_bipush (v := 6) hx hb dX12_readLinear_172 (by decide) ?_
                  have hl : lv_has _ _ ([(0, .ref h0), (1, .int (nI dN))]) := lv_sub hl [0, 1] rfl
                  exact join4 _ _ _ _ ⟨6, ⟨6, by decide, by decide, by decide⟩, rfl, hP, hD, hS, hl⟩
                · have t_165 : (((vF 43) dN)).toInt = 43 := toI_nne c_165 rfl (by decide)
                  refine lv_iconst (v := 5) hx hb dX12_readLinear_168 (by decide) ?_
                  refine lv_goto (tgt := 174) hx hb dX12_readLinear_169 (by decide) ?_
                  have hl : lv_has _ _ ([(0, .ref h0), (1, .int (nI dN))]) := lv_sub hl [0, 1] rfl
                  exact join4 _ _ _ _ ⟨5, ⟨5, by decide, by decide, by decide⟩, rfl, hP, hD, hS, hl⟩
              · rintro H locs ls stk ⟨kz, hkz0, rfl, hP, hD, hS, hl⟩
                obtain ⟨kk, hkz, hk5, hk8⟩ := hkz0
                refine lv_aload_n hx hb dX12_readLinear_174 rfl (lv_at hl 0 rfl) ?_
                refine va_get (D := (dC, dI)) (ci := 12) (v := .ref (a 41)) (C := RX12) (T := TX12) (N := 163) (fs := fM (vS a (fT vi 52 (nI nd3)) vj)) hx hb hts iwsRX12_readLinear_in12 hown hK hP 0 rfl rfl 66 (by decide) (hts _ hm_r_X12_readLinear_7) (fun _ h9 => h9) rfl dX12_readLinear_175 ?_
                refine lv_iload_n hx hb dX12_readLinear_178 rfl (lv_at hl 1 rfl) ?_
                refine va_iald (cA := k 41) (n := 120) (f := (vF 41)) hx hb hK hP 42 41 (WR_get 41 (by decide)) (TR_get 41 (by decide)) (vp_in_nI (show dN < 120 by omega) (by omega)) dX12_readLinear_179 ?_
                refine lv_topi (fun y13 hy13 => ?_)
                obtain rfl : ((vF 41) dN) = y13 := (hy13.trans (by rw [nI_clamp (by omega)])).symm
                refine lv_topi (fun y14 hy14 => ?_)
                obtain rfl : (nI cP) = y14 := (hy14.trans (hcP)).symm
                refine lv_aload_n hx hb dX12_readLinear_180 rfl (lv_at hl 0 rfl) ?_
                refine va_get (D := (dC, dI)) (ci := 12) (v := .ref (a 42)) (C := RX12) (T := TX12) (N := 163) (fs := fM (vS a (fT vi 52 (nI nd3)) vj)) hx hb hts iwsRX12_readLinear_in12 hown hK hP 0 rfl rfl 67 (by decide) (hts _ hm_r_X12_readLinear_1) (fun _ h9 => h9) rfl dX12_readLinear_181 ?_
                refine lv_iload_n hx hb dX12_readLinear_184 rfl (lv_at hl 1 rfl) ?_
                refine va_iald (cA := k 42) (n := 120) (f := (upd (vF 42) ((nI dN)).toNatClampNeg (nI c3))) hx hb hK hP 43 42 (WR_get 42 (by decide)) (TR_get 42 (by decide)) (vp_in_nI (show dN < 120 by omega) (by omega)) dX12_readLinear_185 ?_
                refine lv_topi (fun y15 hy15 => ?_)
                obtain rfl : ((upd (vF 42) ((nI dN)).toNatClampNeg (nI c3)) dN) = y15 := (hy15.trans (by rw [nI_clamp (by omega)])).symm
                refine lv_topi (fun y16 hy16 => ?_)
                obtain rfl : (nI c3) = y16 := (hy16.trans (by rw [upd_at (by omega), if_pos rfl])).symm
                refine lv_iconst (v := 0) hx hb dX12_readLinear_186 (by decide) ?_
                refine lv_aload_n hx hb dX12_readLinear_187 rfl (lv_at hl 0 rfl) ?_
                refine va_get (D := (dC, dI)) (ci := 12) (v := .ref (a 45)) (C := RX12) (T := TX12) (N := 163) (fs := fM (vS a (fT vi 52 (nI nd3)) vj)) hx hb hts iwsRX12_readLinear_in12 hown hK hP 0 rfl rfl 70 (by decide) (hts _ hm_r_X12_readLinear_9) (fun _ h9 => h9) rfl dX12_readLinear_188 ?_
                refine lv_iload_n hx hb dX12_readLinear_191 rfl (lv_at hl 1 rfl) ?_
                refine va_iald (cA := k 45) (n := 120) (f := (vF 45)) hx hb hK hP 46 45 (WR_get 45 (by decide)) (TR_get 45 (by decide)) (vp_in_nI (show dN < 120 by omega) (by omega)) dX12_readLinear_192 ?_
                refine lv_topi (fun y17 hy17 => ?_)
                obtain rfl : ((vF 45) dN) = y17 := (hy17.trans (by rw [nI_clamp (by omega)])).symm
                have hFc := allFree hD hS hA
                refine va_calli (va_runV (As := [.int kz, .int (nI cP), .int (nI c3), .int 0, .int ((vF 45) dN)]) (rest := [.int (nI dN), .ref (a 41)]) ⟨hx, hb, hml, hown, hts⟩ (r_X12_node l dC dI a k h0 (fT vi 52 (nI nd3)) vj (fT (fT (fT (fT (fT (fT (fT (fT vF 29 a29) 30 a30) 31 a31) 32 a32) 33 a33) 34 a34) 35 a35) 42 (upd (vF 42) ((nI dN)).toNatClampNeg (nI c3))) vG nd3 kz (nI cP) (nI c3) 0 ((vF 45) dN) rfl (by first | with_reducible assumption | decide | omega | rfl | assumption) H.size) (cwV 5 hts gwsRX12_readLinear_0 rfl rfl rfl hd_yX12_node_RX12 (by decide +kernel)) (fz_pre (va_recv hK hP (ci := 12) (q0 := 0) rfl rfl) hP hK hD) rfl rfl hl.1 rfl (lv_room (Nat.le_of_ble_eq_true rfl)) dX12_readLinear_193 (by decide +kernel)) hS (fun q _ h => hFc q h) hFc (fun r193 u t9_ H locs ht hvm hw9 hB9 hz1 hk1 hS => ?_)
                have e9i : fT vi 52 (nI (nd3 + 1)) = fT (fT vi 52 (nI nd3)) 52 (nI (nd3 + 1)) := (fT_sm _ _ _ _).symm
                have e9F : fT (fT (fT (fT (fT (fT (fT (fT vF 29 (upd a29 (nI nd3).toNatClampNeg kz)) 30 (upd a30 (nI nd3).toNatClampNeg (nI cP))) 31 (upd a31 (nI nd3).toNatClampNeg (nI c3))) 32 (upd a32 (nI nd3).toNatClampNeg 0)) 33 (upd a33 (nI nd3).toNatClampNeg ((vF 45) dN))) 34 (upd a34 (nI nd3).toNatClampNeg 0)) 35 (upd a35 (nI nd3).toNatClampNeg 0)) 42 (upd (vF 42) ((nI dN)).toNatClampNeg (nI c3)) = fT (fT (fT (fT (fT (fT (fT (fT (fT (fT (fT (fT (fT (fT (fT vF 29 a29) 30 a30) 31 a31) 32 a32) 33 a33) 34 a34) 35 a35) 42 (upd (vF 42) ((nI dN)).toNatClampNeg (nI c3))) 29 (upd a29 (nI nd3).toNatClampNeg kz)) 30 (upd a30 (nI nd3).toNatClampNeg (nI cP))) 31 (upd a31 (nI nd3).toNatClampNeg (nI c3))) 32 (upd a32 (nI nd3).toNatClampNeg 0)) 33 (upd a33 (nI nd3).toNatClampNeg ((vF 45) dN))) 34 (upd a34 (nI nd3).toNatClampNeg 0)) 35 (upd a35 (nI nd3).toNatClampNeg 0) := Eq.symm (Eq.trans (congrArg (fun g9 => fT g9 35 (upd a35 (nI nd3).toNatClampNeg 0)) (Eq.trans (congrArg (fun g9 => fT g9 34 (upd a34 (nI nd3).toNatClampNeg 0)) (Eq.trans (congrArg (fun g9 => fT g9 33 (upd a33 (nI nd3).toNatClampNeg ((vF 45) dN))) (Eq.trans (congrArg (fun g9 => fT g9 32 (upd a32 (nI nd3).toNatClampNeg 0)) (Eq.trans (congrArg (fun g9 => fT g9 31 (upd a31 (nI nd3).toNatClampNeg (nI c3))) (Eq.trans (congrArg (fun g9 => fT g9 30 (upd a30 (nI nd3).toNatClampNeg (nI cP))) (up_7 rfl)) (up_6 rfl))) (up_5 rfl))) (up_4 rfl))) (up_3 rfl))) (up_2 rfl))) (up_1 rfl))
                have hP := wr_PF e9F (wr_Pi e9i (fz_P ht hB9.1))
                have hD := wr_DF e9F (wr_Di e9i (hB9.2.weaken (fun _ q _ h => hFc q.1 h)))
                clear e9i e9F
                obtain rfl := hw9
                have hl : lv_has _ _ ([(0, .ref h0), (1, .int (nI dN))]) := lv_sub hl [0, 1] rfl
                exact join3 _ _ _ _ ⟨nd3, (G3.add nd3 (G3.wt cP + G3.wt c3 + 3) (51 - 2 * (cw + xe)) 0), (nd3 + 1), (upd a29 (nI nd3).toNatClampNeg kz), (upd a30 (nI nd3).toNatClampNeg (nI cP)), (upd a31 (nI nd3).toNatClampNeg (nI c3)), (upd a32 (nI nd3).toNatClampNeg 0), (upd a33 (nI nd3).toNatClampNeg ((vF 45) dN)), (upd a34 (nI nd3).toNatClampNeg 0), (upd a35 (nI nd3).toNatClampNeg 0), (hK3.mkPair (cv := 0) (by omega) hkz ⟨hk5, hk8⟩ rfl rfl (hK3.2.1.lin hcPL) hL3 (by omega) (show 51 - 2 * (cw + xe) ≤ 51 - 2 * (cw + xe) by omega) (by omega)).1, (hK3.mkPair (cv := 0) (by omega) hkz ⟨hk5, hk8⟩ rfl rfl (hK3.2.1.lin hcPL) hL3 (by omega) (show 51 - 2 * (cw + xe) ≤ 51 - 2 * (cw + xe) by omega) (by omega)).2, by show nd3 + 1 + pe ≤ fn ∧ G3.vN + 1 + un ≤ nd3 + 1; omega, rfl, hP, hD, hS, hl⟩
            · have t_144 : (((vF 41) dN)).toInt = -1 := toI_nne c_144 rfl (by decide)
              refine lv_aload_n hx hb dX12_readLinear_147 rfl (lv_at hl 0 rfl) ?_
              refine va_get (D := (dC, dI)) (ci := 12) (v := .ref (a 42)) (C := RX12) (T := TX12) (N := 163) (fs := fM (vS a (fT vi 52 (nI nd3)) vj)) hx hb hts iwsRX12_readLinear_in12 hown hK hP 0 rfl rfl 67 (by decide) (hts _ hm_r_X12_readLinear_1) (fun _ h9 => h9) rfl dX12_readLinear_148 ?_
              refine lv_iload_n hx hb dX12_readLinear_151 rfl (lv_at hl 1 rfl) ?_
              refine va_iald (cA := k 42) (n := 120) (f := (upd (vF 42) ((nI dN)).toNatClampNeg (nI c3))) hx hb hK hP 43 42 (WR_get 42 (by decide)) (TR_get 42 (by decide)) (vp_in_nI (show dN < 120 by omega) (by omega)) dX12_readLinear_152 ?_
              refine lv_topi (fun y18 hy18 => ?_)
              obtain rfl : ((upd (vF 42) ((nI dN)).toNatClampNeg (nI c3)) dN) = y18 := (hy18.trans (by rw [nI_clamp (by omega)])).symm
              refine lv_topi (fun y19 hy19 => ?_)
              obtain rfl : (nI c3) = y19 := (hy19.trans (by rw [upd_at (by omega), if_pos rfl])).symm
              refine lv_goto (tgt := 196) hx hb dX12_readLinear_153 (by decide) ?_
              have hl : lv_has _ _ ([(0, .ref h0), (1, .int (nI dN))]) := lv_sub hl [0, 1] rfl
              exact join3 _ _ _ _ ⟨c3, G3, nd3, a29, a30, a31, a32, a33, a34, a35, hK3, hL3.mono (by omega), by omega, rfl, hP, hD, hS, hl⟩
          · rintro H locs ls stk ⟨c1, G4, nd4, b29, b30, b31, b32, b33, b34, b35, hK4, hL4, hn4, rfl, hP, hD, hS, hl⟩
            refine va_iast (cA := k 41) (n := 120) (f := (vF 41)) hx hb hK hP hD hS 42 41 (WR_get 41 (by decide)) (TR_get 41 (by decide)) (vp_in_nI (show dN < 120 by omega) (by omega)) dX12_readLinear_196 (fun H locs hP hD hS => ?_)
            have hP : va_P (dC, dI) vwCl (WR a k h0 (fT vi 52 (nI nd4)) vj (fT (fT (fT (fT (fT (fT (fT (fT (fT vF 29 b29) 30 b30) 31 b31) 32 b32) 33 b33) 34 b34) 35 b35) 42 (upd (vF 42) ((nI dN)).toNatClampNeg (nI c3))) 41 (upd (vF 41) ((nI dN)).toNatClampNeg (nI c1))) vG) H := fz_w (WR_F 41 (by decide) _ rfl) hP
            have hD : va_D A (WR a k h0 (fT vi 52 (nI nd4)) vj (fT (fT (fT (fT (fT (fT (fT (fT (fT vF 29 b29) 30 b30) 31 b31) 32 b32) 33 b33) 34 b34) 35 b35) 42 (upd (vF 42) ((nI dN)).toNatClampNeg (nI c3))) 41 (upd (vF 41) ((nI dN)).toNatClampNeg (nI c1))) vG) := fz_wD (WR_F 41 (by decide) _ rfl) hD
            refine lv_aload_n hx hb dX12_readLinear_197 rfl (lv_at hl 0 rfl) ?_
            refine va_get (D := (dC, dI)) (ci := 12) (v := .ref (a 42)) (C := RX12) (T := TX12) (N := 163) (fs := fM (vS a (fT vi 52 (nI nd4)) vj)) hx hb hts iwsRX12_readLinear_in12 hown hK hP 0 rfl rfl 67 (by decide) (hts _ hm_r_X12_readLinear_1) (fun _ h9 => h9) rfl dX12_readLinear_198 ?_
            refine lv_iload_n hx hb dX12_readLinear_201 rfl (lv_at hl 1 rfl) ?_
            refine lv_iconst (v := (-1)) hx hb dX12_readLinear_202 (by decide) ?_
            refine va_iast (cA := k 42) (n := 120) (f := (upd (vF 42) ((nI dN)).toNatClampNeg (nI c3))) hx hb hK hP hD hS 43 42 (WR_get 42 (by decide)) (TR_get 42 (by decide)) (vp_in_nI (show dN < 120 by omega) (by omega)) dX12_readLinear_203 (fun H locs hP hD hS => ?_)
            have e9 : fT (fT (fT (fT (fT (fT (fT (fT (fT vF 29 b29) 30 b30) 31 b31) 32 b32) 33 b33) 34 b34) 35 b35) 42 (upd (upd (vF 42) ((nI dN)).toNatClampNeg (nI c3)) ((nI dN)).toNatClampNeg (-1))) 41 (upd (vF 41) ((nI dN)).toNatClampNeg (nI c1)) = fT (fT (fT (fT (fT (fT (fT (fT (fT (fT vF 29 b29) 30 b30) 31 b31) 32 b32) 33 b33) 34 b34) 35 b35) 42 (upd (vF 42) ((nI dN)).toNatClampNeg (nI c3))) 41 (upd (vF 41) ((nI dN)).toNatClampNeg (nI c1))) 42 (upd (upd (vF 42) ((nI dN)).toNatClampNeg (nI c3)) ((nI dN)).toNatClampNeg (-1)) := ((fT_sw _ _ _ (Nat.ne_of_beq_eq_false rfl)).trans (congrArg (fun g9 => fT g9 41 (upd (vF 41) ((nI dN)).toNatClampNeg (nI c1))) (fT_sm _ _ _ _))).symm
            have hP := wr_PF e9 (fz_w (WR_F 42 (by decide) _ rfl) hP)
            have hD := wr_DF e9 (fz_wD (WR_F 42 (by decide) _ rfl) hD)
            clear e9
            refine lv_aload_n hx hb dX12_readLinear_204 rfl (lv_at hl 0 rfl) ?_
            refine lv_bipush (v := 43) hx hb dX12_readLinear_205 (by decide) ?_
            have hFc := allFree hD hS hA
            refine va_calli (va_runV (As := [.int 43]) (rest := []) ⟨hx, hb, hml, hown, hts⟩ (r_X12_isSign l dC dI a k h0 (fT vi 52 (nI nd4)) vj (fT (fT (fT (fT (fT (fT (fT (fT (fT vF 29 b29) 30 b30) 31 b31) 32 b32) 33 b33) 34 b34) 35 b35) 42 (upd (upd (vF 42) ((nI dN)).toNatClampNeg (nI c3)) ((nI dN)).toNatClampNeg (-1))) 41 (upd (vF 41) ((nI dN)).toNatClampNeg (nI c1))) vG 43 H.size) (cwV 1 hts gwsRX12_readLinear_1 rfl rfl rfl hd_yX12_isSign_RX12 (by decide +kernel)) (fz_pre (va_recv hK hP (ci := 12) (q0 := 0) rfl rfl) hP hK hD) rfl rfl hl.1 rfl (lv_room (Nat.le_of_ble_eq_true rfl)) dX12_readLinear_207 (by decide +kernel)) hS (fun q _ h => hFc q h) hFc (fun r207 u t9_ H locs ht hvm hw9 hB9 hz1 hk1 hS => ?_)
            have hP : va_P (dC, dI) vwCl (WR a k h0 (fT vi 52 (nI nd4)) vj (fT (fT (fT (fT (fT (fT (fT (fT (fT vF 29 b29) 30 b30) 31 b31) 32 b32) 33 b33) 34 b34) 35 b35) 42 (upd (upd (vF 42) ((nI dN)).toNatClampNeg (nI c3)) ((nI dN)).toNatClampNeg (-1))) 41 (upd (vF 41) ((nI dN)).toNatClampNeg (nI c1))) vG) H := fz_P ht hB9.1
            have hD := fz_sd hP (hB9.2.weaken (fun _ q _ h => hFc q.1 h)) rfl
            rcases hw9 with ⟨rfl, f207_0, f207_1⟩ | ⟨rfl, f207_0⟩
            · have f207_0 : (vi 18).toInt = 4 := f207_0
              have f207_1 : (vi 20) = 43 := f207_1
              refine lv_if_ne (tgt := 222) hx hb dX12_readLinear_210 (by decide) (fun _ => ?_) (fun c9 => absurd c9 (by decide))
              have hfl : fn < an := hLx.2.2.1.resolve_left (fun h => by first | (rw [h] at f207_0; exact absurd f207_0 (by decide)) | (rw [h] at f216_0; exact absurd f216_0 (by decide)))
              refine lv_aload_n hx hb dX12_readLinear_222 rfl (lv_at hl 0 rfl) ?_
              refine va_get (D := (dC, dI)) (ci := 12) (v := .ref (a 43)) (C := RX12) (T := TX12) (N := 163) (fs := fM (vS a (fT vi 52 (nI nd4)) vj)) hx hb hts iwsRX12_readLinear_in12 hown hK hP 0 rfl rfl 68 (by decide) (hts _ hm_r_X12_readLinear_8) (fun _ h9 => h9) rfl dX12_readLinear_223 ?_
              refine lv_iload_n hx hb dX12_readLinear_226 rfl (lv_at hl 1 rfl) ?_
              refine lv_aload_n hx hb dX12_readLinear_227 rfl (lv_at hl 0 rfl) ?_
              refine va_get (D := (dC, dI)) (ci := 12) (v := .int (vi 20)) (C := RX12) (T := TX12) (N := 163) (fs := fM (vS a (fT vi 52 (nI nd4)) vj)) hx hb hts iwsRX12_readLinear_in12 hown hK hP 0 rfl rfl 20 (by decide) (hts _ hm_r_X12_readLinear_5) (fun _ h9 => h9) rfl dX12_readLinear_228 ?_
              refine va_iast (cA := k 43) (n := 120) (f := (vF 43)) hx hb hK hP hD hS 44 43 (WR_get 43 (by decide)) (TR_get 43 (by decide)) (vp_in_nI (show dN < 120 by omega) (by omega)) dX12_readLinear_231 (fun H locs hP hD hS => ?_)
              have hP : va_P (dC, dI) vwCl (WR a k h0 (fT vi 52 (nI nd4)) vj (fT (fT (fT (fT (fT (fT (fT (fT (fT (fT vF 29 b29) 30 b30) 31 b31) 32 b32) 33 b33) 34 b34) 35 b35) 42 (upd (upd (vF 42) ((nI dN)).toNatClampNeg (nI c3)) ((nI dN)).toNatClampNeg (-1))) 41 (upd (vF 41) ((nI dN)).toNatClampNeg (nI c1))) 43 (upd (vF 43) ((nI dN)).toNatClampNeg (vi 20))) vG) H := fz_w (WR_F 43 (by decide) _ rfl) hP
              have hD : va_D A (WR a k h0 (fT vi 52 (nI nd4)) vj (fT (fT (fT (fT (fT (fT (fT (fT (fT (fT vF 29 b29) 30 b30) 31 b31) 32 b32) 33 b33) 34 b34) 35 b35) 42 (upd (upd (vF 42) ((nI dN)).toNatClampNeg (nI c3)) ((nI dN)).toNatClampNeg (-1))) 41 (upd (vF 41) ((nI dN)).toNatClampNeg (nI c1))) 43 (upd (vF 43) ((nI dN)).toNatClampNeg (vi 20))) vG) := fz_wD (WR_F 43 (by decide) _ rfl) hD
              refine lv_aload_n hx hb dX12_readLinear_232 rfl (lv_at hl 0 rfl) ?_
              refine va_get (D := (dC, dI)) (ci := 12) (v := .ref (a 45)) (C := RX12) (T := TX12) (N := 163) (fs := fM (vS a (fT vi 52 (nI nd4)) vj)) hx hb hts iwsRX12_readLinear_in12 hown hK hP 0 rfl rfl 70 (by decide) (hts _ hm_r_X12_readLinear_9) (fun _ h9 => h9) rfl dX12_readLinear_233 ?_
              refine lv_iload_n hx hb dX12_readLinear_236 rfl (lv_at hl 1 rfl) ?_
              refine lv_aload_n hx hb dX12_readLinear_237 rfl (lv_at hl 0 rfl) ?_
              refine va_get (D := (dC, dI)) (ci := 12) (v := .int (vi 19)) (C := RX12) (T := TX12) (N := 163) (fs := fM (vS a (fT vi 52 (nI nd4)) vj)) hx hb hts iwsRX12_readLinear_in12 hown hK hP 0 rfl rfl 19 (by decide) (hts _ hm_r_X12_readLinear_6) (fun _ h9 => h9) rfl dX12_readLinear_238 ?_
              refine lv_topi (fun y20 hy20 => ?_)
              obtain rfl : (nI fn) = y20 := (hy20.trans (hfr)).symm
              refine va_iast (cA := k 45) (n := 120) (f := (vF 45)) hx hb hK hP hD hS 46 45 (WR_get 45 (by decide)) (TR_get 45 (by decide)) (vp_in_nI (show dN < 120 by omega) (by omega)) dX12_readLinear_241 (fun H locs hP hD hS => ?_)
              have hP : va_P (dC, dI) vwCl (WR a k h0 (fT vi 52 (nI nd4)) vj (fT (fT (fT (fT (fT (fT (fT (fT (fT (fT (fT vF 29 b29) 30 b30) 31 b31) 32 b32) 33 b33) 34 b34) 35 b35) 42 (upd (upd (vF 42) ((nI dN)).toNatClampNeg (nI c3)) ((nI dN)).toNatClampNeg (-1))) 41 (upd (vF 41) ((nI dN)).toNatClampNeg (nI c1))) 43 (upd (vF 43) ((nI dN)).toNatClampNeg (vi 20))) 45 (upd (vF 45) ((nI dN)).toNatClampNeg (nI fn))) vG) H := fz_w (WR_F 45 (by decide) _ rfl) hP
              have hD : va_D A (WR a k h0 (fT vi 52 (nI nd4)) vj (fT (fT (fT (fT (fT (fT (fT (fT (fT (fT (fT vF 29 b29) 30 b30) 31 b31) 32 b32) 33 b33) 34 b34) 35 b35) 42 (upd (upd (vF 42) ((nI dN)).toNatClampNeg (nI c3)) ((nI dN)).toNatClampNeg (-1))) 41 (upd (vF 41) ((nI dN)).toNatClampNeg (nI c1))) 43 (upd (vF 43) ((nI dN)).toNatClampNeg (vi 20))) 45 (upd (vF 45) ((nI dN)).toNatClampNeg (nI fn))) vG) := fz_wD (WR_F 45 (by decide) _ rfl) hD
              refine lv_aload_n hx hb dX12_readLinear_242 rfl (lv_at hl 0 rfl) ?_
              have hFc := allFree hD hS hA
              refine va_callv (va_runV (As := []) (rest := []) ⟨hx, hb, hml, hown, hts⟩ (r_X12_next l dC dI a k h0 (fT vi 52 (nI nd4)) vj (fT (fT (fT (fT (fT (fT (fT (fT (fT (fT (fT vF 29 b29) 30 b30) 31 b31) 32 b32) 33 b33) 34 b34) 35 b35) 42 (upd (upd (vF 42) ((nI dN)).toNatClampNeg (nI c3)) ((nI dN)).toNatClampNeg (-1))) 41 (upd (vF 41) ((nI dN)).toNatClampNeg (nI c1))) 43 (upd (vF 43) ((nI dN)).toNatClampNeg (vi 20))) 45 (upd (vF 45) ((nI dN)).toNatClampNeg (nI fn))) vG tp an hTp (by first | with_reducible assumption | decide | omega | rfl | assumption) ha0 (by first | with_reducible assumption | decide | omega | rfl | assumption) H.size) (cwV 0 hts gwsRX12_readLinear_2 rfl rfl rfl hd_yX12_next_RX12 (by decide +kernel)) (fz_preE (va_recv hK hP (ci := 12) (q0 := 0) rfl rfl) hP hK hD (fun a U g mk qE => qE.same rfl) (fun U hU9 hW => by rw [hU9]; exact (((hE : StrA A s s.heap).kept hS.2.1).narrow (fun q h => hFc q h)).warm hW)) rfl rfl hl.1 rfl (lv_room (Nat.le_of_ble_eq_true rfl)) dX12_readLinear_243 (by decide +kernel)) hS (fun q _ h => hFc q h) hFc (fun u t9_ H locs ht hvm hw9 hB9 hz1 hk1 hS => ?_)
              revert u hw9 hB9
              refine fz_p4 ?_
              intro a2243 f2243 sg243 wd243 hw9 hB9
              try dsimp only at hw9 hB9
              have hP : va_P (dC, dI) vwCl (WR a k h0 (fT (fT (fT (fT (fT vi 52 (nI nd4)) 17 (nI a2243)) 19 (nI f2243)) 20 sg243) 18 wd243) vj (fT (fT (fT (fT (fT (fT (fT (fT (fT (fT (fT vF 29 b29) 30 b30) 31 b31) 32 b32) 33 b33) 34 b34) 35 b35) 42 (upd (upd (vF 42) ((nI dN)).toNatClampNeg (nI c3)) ((nI dN)).toNatClampNeg (-1))) 41 (upd (vF 41) ((nI dN)).toNatClampNeg (nI c1))) 43 (upd (vF 43) ((nI dN)).toNatClampNeg (vi 20))) 45 (upd (vF 45) ((nI dN)).toNatClampNeg (nI fn))) vG) H := fz_P ht hB9.1
              have hD := fz_sd hP (hB9.2.weaken (fun _ q _ h => hFc q.1 h)) rfl
              revert hw9
              refine fz_a2 ?_
              intro f243_0 f243_1
              have hl1 := f243_0.1
              have hl2 := f243_0.2.1
              refine lv_aload_n hx hb dX12_readLinear_246 rfl (lv_at hl 0 rfl) ?_
              refine lv_iconst (v := 1) hx hb dX12_readLinear_247 (by decide) ?_
              have hFc := allFree hD hS hA
              refine va_callv (va_runV (As := [.int 1]) (rest := []) ⟨hx, hb, hml, hown, hts⟩ (r_X12_begin1 l dC dI a k h0 (fT (fT (fT (fT (fT vi 52 (nI nd4)) 17 (nI a2243)) 19 (nI f2243)) 20 sg243) 18 wd243) vj (fT (fT (fT (fT (fT (fT (fT (fT (fT (fT (fT vF 29 b29) 30 b30) 31 b31) 32 b32) 33 b33) 34 b34) 35 b35) 42 (upd (upd (vF 42) ((nI dN)).toNatClampNeg (nI c3)) ((nI dN)).toNatClampNeg (-1))) 41 (upd (vF 41) ((nI dN)).toNatClampNeg (nI c1))) 43 (upd (vF 43) ((nI dN)).toNatClampNeg (vi 20))) 45 (upd (vF 45) ((nI dN)).toNatClampNeg (nI fn))) vG 1 tp a2243 f2243 nm se pa va bd (dN + 1) wi hTp (by first | with_reducible assumption | decide | omega | rfl | assumption) rfl rfl (f243_0) (by first | with_reducible assumption | decide | omega | rfl | assumption) hnm (by first | with_reducible assumption | decide | omega | rfl | assumption) (by first | with_reducible assumption | decide | omega | rfl | assumption) (by first | with_reducible assumption | decide | omega | rfl | assumption) hbd (by first | with_reducible assumption | decide | omega | rfl | assumption) (by first | with_reducible assumption | decide | omega | rfl | assumption) (hdp) (by first | with_reducible assumption | decide | omega | rfl | assumption) hwi (by first | with_reducible assumption | decide | omega | rfl | assumption) H.size) (cwV 1 hts gwsRX12_readLinear_3 rfl rfl rfl hd_yX12_begin1_RX12 (by decide +kernel)) (fz_pre (va_recv hK hP (ci := 12) (q0 := 0) rfl rfl) hP hK hD) rfl rfl hl.1 rfl (lv_room (Nat.le_of_ble_eq_true rfl)) dX12_readLinear_248 (by decide +kernel)) hS (fun q _ h => hFc q h) hFc (fun u t9_ H locs ht hvm hw9 hB9 hz1 hk1 hS => ?_)
              revert u hw9 hB9
              refine fz_p10 ?_
              intro s2248 p2248 g39248 g40248 g41248 g42248 g47248 g48248 d2248 w2248 hw9 hB9
              try dsimp only at hw9 hB9
              have e9F : fT (fT (fT (fT (fT (fT (fT (fT (fT (fT (fT (fT (fT (fT (fT vF 29 b29) 30 b30) 31 b31) 32 b32) 33 b33) 34 b34) 35 b35) 42 g42248) 41 g41248) 43 (upd (vF 43) ((nI dN)).toNatClampNeg (vi 20))) 45 (upd (vF 45) ((nI dN)).toNatClampNeg (nI fn))) 39 g39248) 40 g40248) 47 g47248) 48 g48248 = fT (fT (fT (fT (fT (fT (fT (fT (fT (fT (fT (fT (fT (fT (fT (fT (fT vF 29 b29) 30 b30) 31 b31) 32 b32) 33 b33) 34 b34) 35 b35) 42 (upd (upd (vF 42) ((nI dN)).toNatClampNeg (nI c3)) ((nI dN)).toNatClampNeg (-1))) 41 (upd (vF 41) ((nI dN)).toNatClampNeg (nI c1))) 43 (upd (vF 43) ((nI dN)).toNatClampNeg (vi 20))) 45 (upd (vF 45) ((nI dN)).toNatClampNeg (nI fn))) 39 g39248) 40 g40248) 41 g41248) 42 g42248) 47 g47248) 48 g48248 := Eq.symm (congrArg (fun g9 => fT (fT g9 47 g47248) 48 g48248) (Eq.trans (congrArg (fun g9 => fT g9 42 g42248) (up_4 rfl)) (up_5 rfl)))
              have hP := wr_PF e9F (fz_P ht hB9.1)
              have hD := wr_DF e9F (hB9.2.weaken (fun _ q _ h => hFc q.1 h))
              clear e9F
              revert hw9
              refine fz_a4 ?_
              intro f248_0 f248_1 f248_2 f248_3
              have f248_1 : 0 < (s2248).toInt ∨ (s2248 = (vi 21) ∧ BgO 1 wd243 sg243 g39248 g40248 g41248 g42248 g48248 (dN + 1) wi d2248 w2248) := f248_1
              have f248_2 : FrmO (dN + 1) (vF 39) (vF 40) (upd (vF 41) ((nI dN)).toNatClampNeg (nI c1)) (upd (upd (vF 42) ((nI dN)).toNatClampNeg (nI c3)) ((nI dN)).toNatClampNeg (-1)) (vF 48) g39248 g40248 g41248 g42248 g48248 := f248_2
              refine W.widen (k := 0) (n := 0) (by decide +kernel) (by decide +kernel) ?_
              have e9 : fT (fT (fT (fT (fT (fT (fT (fT (fT (fT (fT vi 52 (nI nd4)) 17 (nI a2243)) 19 (nI f2243)) 20 sg243) 18 wd243) 75 (nI w2248)) 74 (nI d2248)) 21 s2248) 22 p2248) 76 (vi 76)) 77 (vi 77) = fT (fT (fT (fT (fT (fT (fT (fT (fT vi 52 (nI nd4)) 17 (nI a2243)) 19 (nI f2243)) 20 sg243) 18 wd243) 75 (nI w2248)) 74 (nI d2248)) 21 s2248) 22 p2248 := Eq.trans (mv_1 rfl) (Eq.trans (id_10 rfl) (id_9 rfl))
              have hP := wr_Pi e9 hP
              have hD := wr_Di e9 hD
              clear e9
              have e9 : fT (fT (fT (fT (fT (fT (fT (fT (fT (fT (fT (fT (fT (fT (fT (fT (fT vF 29 b29) 30 b30) 31 b31) 32 b32) 33 b33) 34 b34) 35 b35) 42 g42248) 44 (vF 44)) 46 (vF 46)) 39 g39248) 40 g40248) 41 g41248) 47 g47248) 48 g48248) 43 (upd (vF 43) ((nI dN)).toNatClampNeg (vi 20))) 45 (upd (vF 45) ((nI dN)).toNatClampNeg (nI fn)) = fT (fT (fT (fT (fT (fT (fT (fT (fT (fT (fT (fT (fT (fT (fT vF 29 b29) 30 b30) 31 b31) 32 b32) 33 b33) 34 b34) 35 b35) 42 g42248) 41 g41248) 43 (upd (vF 43) ((nI dN)).toNatClampNeg (vi 20))) 45 (upd (vF 45) ((nI dN)).toNatClampNeg (nI fn))) 39 g39248) 40 g40248) 47 g47248) 48 g48248 := Eq.trans (mv_8 rfl) (Eq.trans (id_16 rfl) (Eq.trans (mv_7 rfl) (Eq.trans (id_15 rfl) (Eq.trans (mv_4 rfl) (Eq.trans (mv_2 rfl) (Eq.trans (mv_2 rfl) (Eq.trans (mv_6 rfl) (Eq.trans (mv_6 rfl) (Eq.trans (mv_6 rfl) (mv_6 rfl))))))))))
              have hP := wr_PF e9 hP
              have hD := wr_DF e9 hD
              clear e9
              exact W.vret hx hb hr (fun t9_ ht hW => ⟨⟨(a2243, f2243, sg243, wd243, s2248, p2248, b29, b30, b31, b32, b33, b34, b35, g39248, g40248, g41248, g42248, (upd (vF 43) ((nI dN)).toNatClampNeg (vi 20)), (vF 44), (upd (vF 45) ((nI dN)).toNatClampNeg (nI fn)), (vF 46), g47248, g48248, d2248, w2248, nd4, (vi 76), (vi 77), G4), rfl, by (try dsimp only); exact ⟨f243_0, by omega, f248_0, by rcases f248_1 with h9 | h9; (exact Or.inl h9); (exact Or.inr ⟨RdS.push (gm := gl) hK4.1 hBel hK4.2.1 (Nat.le_refl _) (fun q hq => ⟨rfl, rfl, by rw [upd_at (by omega), if_neg (by omega)], by rw [upd_at (by omega), if_neg (by omega), upd_at (by omega), if_neg (by omega)], rfl⟩) h39 (by decide) h48 (by omega) ⟨⟨by omega, fun _ => by omega, fun h8 => absurd h8 (by decide), Nat.le_refl _⟩, Or.inl ⟨rfl, rfl, hq0, rfl, rfl, 1, 0, Or.inr ⟨rfl, c1, by rw [upd_at (by omega), if_pos rfl], hL4⟩, Or.inl ⟨by rw [upd_at (by omega), if_pos rfl], rfl⟩, rfl⟩⟩ f248_2 (by rw [← hwc]; exact h9.2) (show (1 : Int32) = nI 1 by decide) (by decide) (by omega) (by omega) (by omega) (by omega) hK4.2.2.2 (by show 10 * (4000 - _) + dN + 1 + 1 ≤ mM - 1; omega), hK4.2.1.less (Nat.zero_le _)⟩), by omega⟩, by rw [ht]; exact hP, hD⟩, hS.F ht⟩) hS.2.2 dX12_readLinear_251
            · have f207_0 : ¬ ((vi 18).toInt = 4 ∧ (vi 20) = 43) := f207_0
              refine lv_if_ne (tgt := 222) hx hb dX12_readLinear_210 (by decide) (fun c9 => absurd c9 (by decide)) (fun _ => ?_)
              refine lv_aload_n hx hb dX12_readLinear_213 rfl (lv_at hl 0 rfl) ?_
              refine lv_bipush (v := 45) hx hb dX12_readLinear_214 (by decide) ?_
              have hFc := allFree hD hS hA
              refine va_calli (va_runV (As := [.int 45]) (rest := []) ⟨hx, hb, hml, hown, hts⟩ (r_X12_isSign l dC dI a k h0 (fT vi 52 (nI nd4)) vj (fT (fT (fT (fT (fT (fT (fT (fT (fT vF 29 b29) 30 b30) 31 b31) 32 b32) 33 b33) 34 b34) 35 b35) 42 (upd (upd (vF 42) ((nI dN)).toNatClampNeg (nI c3)) ((nI dN)).toNatClampNeg (-1))) 41 (upd (vF 41) ((nI dN)).toNatClampNeg (nI c1))) vG 45 H.size) (cwV 1 hts gwsRX12_readLinear_1 rfl rfl rfl hd_yX12_isSign_RX12 (by decide +kernel)) (fz_pre (va_recv hK hP (ci := 12) (q0 := 0) rfl rfl) hP hK hD) rfl rfl hl.1 rfl (lv_room (Nat.le_of_ble_eq_true rfl)) dX12_readLinear_216 (by decide +kernel)) hS (fun q _ h => hFc q h) hFc (fun r216 u t9_ H locs ht hvm hw9 hB9 hz1 hk1 hS => ?_)
              have hP : va_P (dC, dI) vwCl (WR a k h0 (fT vi 52 (nI nd4)) vj (fT (fT (fT (fT (fT (fT (fT (fT (fT vF 29 b29) 30 b30) 31 b31) 32 b32) 33 b33) 34 b34) 35 b35) 42 (upd (upd (vF 42) ((nI dN)).toNatClampNeg (nI c3)) ((nI dN)).toNatClampNeg (-1))) 41 (upd (vF 41) ((nI dN)).toNatClampNeg (nI c1))) vG) H := fz_P ht hB9.1
              have hD := fz_sd hP (hB9.2.weaken (fun _ q _ h => hFc q.1 h)) rfl
              rcases hw9 with ⟨rfl, f216_0, f216_1⟩ | ⟨rfl, f216_0⟩
              · have f216_0 : (vi 18).toInt = 4 := f216_0
                have f216_1 : (vi 20) = 45 := f216_1
                refine lv_if_eq (tgt := 252) hx hb dX12_readLinear_219 (by decide) (fun c9 => absurd c9 (by decide)) (fun _ => ?_)
                have hfl : fn < an := hLx.2.2.1.resolve_left (fun h => by first | (rw [h] at f207_0; exact absurd f207_0 (by decide)) | (rw [h] at f216_0; exact absurd f216_0 (by decide)))
                refine lv_aload_n hx hb dX12_readLinear_222 rfl (lv_at hl 0 rfl) ?_
                refine va_get (D := (dC, dI)) (ci := 12) (v := .ref (a 43)) (C := RX12) (T := TX12) (N := 163) (fs := fM (vS a (fT vi 52 (nI nd4)) vj)) hx hb hts iwsRX12_readLinear_in12 hown hK hP 0 rfl rfl 68 (by decide) (hts _ hm_r_X12_readLinear_8) (fun _ h9 => h9) rfl dX12_readLinear_223 ?_
                refine lv_iload_n hx hb dX12_readLinear_226 rfl (lv_at hl 1 rfl) ?_
                refine lv_aload_n hx hb dX12_readLinear_227 rfl (lv_at hl 0 rfl) ?_
                refine va_get (D := (dC, dI)) (ci := 12) (v := .int (vi 20)) (C := RX12) (T := TX12) (N := 163) (fs := fM (vS a (fT vi 52 (nI nd4)) vj)) hx hb hts iwsRX12_readLinear_in12 hown hK hP 0 rfl rfl 20 (by decide) (hts _ hm_r_X12_readLinear_5) (fun _ h9 => h9) rfl dX12_readLinear_228 ?_
                refine va_iast (cA := k 43) (n := 120) (f := (vF 43)) hx hb hK hP hD hS 44 43 (WR_get 43 (by decide)) (TR_get 43 (by decide)) (vp_in_nI (show dN < 120 by omega) (by omega)) dX12_readLinear_231 (fun H locs hP hD hS => ?_)
                have hP : va_P (dC, dI) vwCl (WR a k h0 (fT vi 52 (nI nd4)) vj (fT (fT (fT (fT (fT (fT (fT (fT (fT (fT vF 29 b29) 30 b30) 31 b31) 32 b32) 33 b33) 34 b34) 35 b35) 42 (upd (upd (vF 42) ((nI dN)).toNatClampNeg (nI c3)) ((nI dN)).toNatClampNeg (-1))) 41 (upd (vF 41) ((nI dN)).toNatClampNeg (nI c1))) 43 (upd (vF 43) ((nI dN)).toNatClampNeg (vi 20))) vG) H := fz_w (WR_F 43 (by decide) _ rfl) hP
                have hD : va_D A (WR a k h0 (fT vi 52 (nI nd4)) vj (fT (fT (fT (fT (fT (fT (fT (fT (fT (fT vF 29 b29) 30 b30) 31 b31) 32 b32) 33 b33) 34 b34) 35 b35) 42 (upd (upd (vF 42) ((nI dN)).toNatClampNeg (nI c3)) ((nI dN)).toNatClampNeg (-1))) 41 (upd (vF 41) ((nI dN)).toNatClampNeg (nI c1))) 43 (upd (vF 43) ((nI dN)).toNatClampNeg (vi 20))) vG) := fz_wD (WR_F 43 (by decide) _ rfl) hD
                refine lv_aload_n hx hb dX12_readLinear_232 rfl (lv_at hl 0 rfl) ?_
                refine va_get (D := (dC, dI)) (ci := 12) (v := .ref (a 45)) (C := RX12) (T := TX12) (N := 163) (fs := fM (vS a (fT vi 52 (nI nd4)) vj)) hx hb hts iwsRX12_readLinear_in12 hown hK hP 0 rfl rfl 70 (by decide) (hts _ hm_r_X12_readLinear_9) (fun _ h9 => h9) rfl dX12_readLinear_233 ?_
                refine lv_iload_n hx hb dX12_readLinear_236 rfl (lv_at hl 1 rfl) ?_
                refine lv_aload_n hx hb dX12_readLinear_237 rfl (lv_at hl 0 rfl) ?_
                refine va_get (D := (dC, dI)) (ci := 12) (v := .int (vi 19)) (C := RX12) (T := TX12) (N := 163) (fs := fM (vS a (fT vi 52 (nI nd4)) vj)) hx hb hts iwsRX12_readLinear_in12 hown hK hP 0 rfl rfl 19 (by decide) (hts _ hm_r_X12_readLinear_6) (fun _ h9 => h9) rfl dX12_readLinear_238 ?_
                refine lv_topi (fun y21 hy21 => ?_)
                obtain rfl : (nI fn) = y21 := (hy21.trans (hfr)).symm
                refine va_iast (cA := k 45) (n := 120) (f := (vF 45)) hx hb hK hP hD hS 46 45 (WR_get 45 (by decide)) (TR_get 45 (by decide)) (vp_in_nI (show dN < 120 by omega) (by omega)) dX12_readLinear_241 (fun H locs hP hD hS => ?_)
                have hP : va_P (dC, dI) vwCl (WR a k h0 (fT vi 52 (nI nd4)) vj (fT (fT (fT (fT (fT (fT (fT (fT (fT (fT (fT vF 29 b29) 30 b30) 31 b31) 32 b32) 33 b33) 34 b34) 35 b35) 42 (upd (upd (vF 42) ((nI dN)).toNatClampNeg (nI c3)) ((nI dN)).toNatClampNeg (-1))) 41 (upd (vF 41) ((nI dN)).toNatClampNeg (nI c1))) 43 (upd (vF 43) ((nI dN)).toNatClampNeg (vi 20))) 45 (upd (vF 45) ((nI dN)).toNatClampNeg (nI fn))) vG) H := fz_w (WR_F 45 (by decide) _ rfl) hP
                have hD : va_D A (WR a k h0 (fT vi 52 (nI nd4)) vj (fT (fT (fT (fT (fT (fT (fT (fT (fT (fT (fT vF 29 b29) 30 b30) 31 b31) 32 b32) 33 b33) 34 b34) 35 b35) 42 (upd (upd (vF 42) ((nI dN)).toNatClampNeg (nI c3)) ((nI dN)).toNatClampNeg (-1))) 41 (upd (vF 41) ((nI dN)).toNatClampNeg (nI c1))) 43 (upd (vF 43) ((nI dN)).toNatClampNeg (vi 20))) 45 (upd (vF 45) ((nI dN)).toNatClampNeg (nI fn))) vG) := fz_wD (WR_F 45 (by decide) _ rfl) hD
                refine lv_aload_n hx hb dX12_readLinear_242 rfl (lv_at hl 0 rfl) ?_
                have hFc := allFree hD hS hA
                refine va_callv (va_runV (As := []) (rest := []) ⟨hx, hb, hml, hown, hts⟩ (r_X12_next l dC dI a k h0 (fT vi 52 (nI nd4)) vj (fT (fT (fT (fT (fT (fT (fT (fT (fT (fT (fT vF 29 b29) 30 b30) 31 b31) 32 b32) 33 b33) 34 b34) 35 b35) 42 (upd (upd (vF 42) ((nI dN)).toNatClampNeg (nI c3)) ((nI dN)).toNatClampNeg (-1))) 41 (upd (vF 41) ((nI dN)).toNatClampNeg (nI c1))) 43 (upd (vF 43) ((nI dN)).toNatClampNeg (vi 20))) 45 (upd (vF 45) ((nI dN)).toNatClampNeg (nI fn))) vG tp an hTp (by first | with_reducible assumption | decide | omega | rfl | assumption) ha0 (by first | with_reducible assumption | decide | omega | rfl | assumption) H.size) (cwV 0 hts gwsRX12_readLinear_2 rfl rfl rfl hd_yX12_next_RX12 (by decide +kernel)) (fz_preE (va_recv hK hP (ci := 12) (q0 := 0) rfl rfl) hP hK hD (fun a U g mk qE => qE.same rfl) (fun U hU9 hW => by rw [hU9]; exact (((hE : StrA A s s.heap).kept hS.2.1).narrow (fun q h => hFc q h)).warm hW)) rfl rfl hl.1 rfl (lv_room (Nat.le_of_ble_eq_true rfl)) dX12_readLinear_243 (by decide +kernel)) hS (fun q _ h => hFc q h) hFc (fun u t9_ H locs ht hvm hw9 hB9 hz1 hk1 hS => ?_)
                revert u hw9 hB9
                refine fz_p4 ?_
                intro a2243_1 f2243_1 sg243_1 wd243_1 hw9 hB9
                try dsimp only at hw9 hB9
                have hP : va_P (dC, dI) vwCl (WR a k h0 (fT (fT (fT (fT (fT vi 52 (nI nd4)) 17 (nI a2243_1)) 19 (nI f2243_1)) 20 sg243_1) 18 wd243_1) vj (fT (fT (fT (fT (fT (fT (fT (fT (fT (fT (fT vF 29 b29) 30 b30) 31 b31) 32 b32) 33 b33) 34 b34) 35 b35) 42 (upd (upd (vF 42) ((nI dN)).toNatClampNeg (nI c3)) ((nI dN)).toNatClampNeg (-1))) 41 (upd (vF 41) ((nI dN)).toNatClampNeg (nI c1))) 43 (upd (vF 43) ((nI dN)).toNatClampNeg (vi 20))) 45 (upd (vF 45) ((nI dN)).toNatClampNeg (nI fn))) vG) H := fz_P ht hB9.1
                have hD := fz_sd hP (hB9.2.weaken (fun _ q _ h => hFc q.1 h)) rfl
                revert hw9
                refine fz_a2 ?_
                intro f243_1_0 f243_1_1
                have hl1 := f243_1_0.1
                have hl2 := f243_1_0.2.1
                refine lv_aload_n hx hb dX12_readLinear_246 rfl (lv_at hl 0 rfl) ?_
                refine lv_iconst (v := 1) hx hb dX12_readLinear_247 (by decide) ?_
                have hFc := allFree hD hS hA
                refine va_callv (va_runV (As := [.int 1]) (rest := []) ⟨hx, hb, hml, hown, hts⟩ (r_X12_begin1 l dC dI a k h0 (fT (fT (fT (fT (fT vi 52 (nI nd4)) 17 (nI a2243_1)) 19 (nI f2243_1)) 20 sg243_1) 18 wd243_1) vj (fT (fT (fT (fT (fT (fT (fT (fT (fT (fT (fT vF 29 b29) 30 b30) 31 b31) 32 b32) 33 b33) 34 b34) 35 b35) 42 (upd (upd (vF 42) ((nI dN)).toNatClampNeg (nI c3)) ((nI dN)).toNatClampNeg (-1))) 41 (upd (vF 41) ((nI dN)).toNatClampNeg (nI c1))) 43 (upd (vF 43) ((nI dN)).toNatClampNeg (vi 20))) 45 (upd (vF 45) ((nI dN)).toNatClampNeg (nI fn))) vG 1 tp a2243_1 f2243_1 nm se pa va bd (dN + 1) wi hTp (by first | with_reducible assumption | decide | omega | rfl | assumption) rfl rfl (f243_1_0) (by first | with_reducible assumption | decide | omega | rfl | assumption) hnm (by first | with_reducible assumption | decide | omega | rfl | assumption) (by first | with_reducible assumption | decide | omega | rfl | assumption) (by first | with_reducible assumption | decide | omega | rfl | assumption) hbd (by first | with_reducible assumption | decide | omega | rfl | assumption) (by first | with_reducible assumption | decide | omega | rfl | assumption) (hdp) (by first | with_reducible assumption | decide | omega | rfl | assumption) hwi (by first | with_reducible assumption | decide | omega | rfl | assumption) H.size) (cwV 1 hts gwsRX12_readLinear_3 rfl rfl rfl hd_yX12_begin1_RX12 (by decide +kernel)) (fz_pre (va_recv hK hP (ci := 12) (q0 := 0) rfl rfl) hP hK hD) rfl rfl hl.1 rfl (lv_room (Nat.le_of_ble_eq_true rfl)) dX12_readLinear_248 (by decide +kernel)) hS (fun q _ h => hFc q h) hFc (fun u t9_ H locs ht hvm hw9 hB9 hz1 hk1 hS => ?_)
                revert u hw9 hB9
                refine fz_p10 ?_
                intro s2248_1 p2248_1 g39248_1 g40248_1 g41248_1 g42248_1 g47248_1 g48248_1 d2248_1 w2248_1 hw9 hB9
                try dsimp only at hw9 hB9
                have e9F : fT (fT (fT (fT (fT (fT (fT (fT (fT (fT (fT (fT (fT (fT (fT vF 29 b29) 30 b30) 31 b31) 32 b32) 33 b33) 34 b34) 35 b35) 42 g42248_1) 41 g41248_1) 43 (upd (vF 43) ((nI dN)).toNatClampNeg (vi 20))) 45 (upd (vF 45) ((nI dN)).toNatClampNeg (nI fn))) 39 g39248_1) 40 g40248_1) 47 g47248_1) 48 g48248_1 = fT (fT (fT (fT (fT (fT (fT (fT (fT (fT (fT (fT (fT (fT (fT (fT (fT vF 29 b29) 30 b30) 31 b31) 32 b32) 33 b33) 34 b34) 35 b35) 42 (upd (upd (vF 42) ((nI dN)).toNatClampNeg (nI c3)) ((nI dN)).toNatClampNeg (-1))) 41 (upd (vF 41) ((nI dN)).toNatClampNeg (nI c1))) 43 (upd (vF 43) ((nI dN)).toNatClampNeg (vi 20))) 45 (upd (vF 45) ((nI dN)).toNatClampNeg (nI fn))) 39 g39248_1) 40 g40248_1) 41 g41248_1) 42 g42248_1) 47 g47248_1) 48 g48248_1 := Eq.symm (congrArg (fun g9 => fT (fT g9 47 g47248_1) 48 g48248_1) (Eq.trans (congrArg (fun g9 => fT g9 42 g42248_1) (up_4 rfl)) (up_5 rfl)))
                have hP := wr_PF e9F (fz_P ht hB9.1)
                have hD := wr_DF e9F (hB9.2.weaken (fun _ q _ h => hFc q.1 h))
                clear e9F
                revert hw9
                refine fz_a4 ?_
                intro f248_1_0 f248_1_1 f248_1_2 f248_1_3
                have f248_1_1 : 0 < (s2248_1).toInt ∨ (s2248_1 = (vi 21) ∧ BgO 1 wd243_1 sg243_1 g39248_1 g40248_1 g41248_1 g42248_1 g48248_1 (dN + 1) wi d2248_1 w2248_1) := f248_1_1
                have f248_1_2 : FrmO (dN + 1) (vF 39) (vF 40) (upd (vF 41) ((nI dN)).toNatClampNeg (nI c1)) (upd (upd (vF 42) ((nI dN)).toNatClampNeg (nI c3)) ((nI dN)).toNatClampNeg (-1)) (vF 48) g39248_1 g40248_1 g41248_1 g42248_1 g48248_1 := f248_1_2
                refine W.widen (k := 0) (n := 0) (by decide +kernel) (by decide +kernel) ?_
                have e9 : fT (fT (fT (fT (fT (fT (fT (fT (fT (fT (fT vi 52 (nI nd4)) 17 (nI a2243_1)) 19 (nI f2243_1)) 20 sg243_1) 18 wd243_1) 75 (nI w2248_1)) 74 (nI d2248_1)) 21 s2248_1) 22 p2248_1) 76 (vi 76)) 77 (vi 77) = fT (fT (fT (fT (fT (fT (fT (fT (fT vi 52 (nI nd4)) 17 (nI a2243_1)) 19 (nI f2243_1)) 20 sg243_1) 18 wd243_1) 75 (nI w2248_1)) 74 (nI d2248_1)) 21 s2248_1) 22 p2248_1 := Eq.trans (mv_1 rfl) (Eq.trans (id_10 rfl) (id_9 rfl))
                have hP := wr_Pi e9 hP
                have hD := wr_Di e9 hD
                clear e9
                have e9 : fT (fT (fT (fT (fT (fT (fT (fT (fT (fT (fT (fT (fT (fT (fT (fT (fT vF 29 b29) 30 b30) 31 b31) 32 b32) 33 b33) 34 b34) 35 b35) 42 g42248_1) 44 (vF 44)) 46 (vF 46)) 39 g39248_1) 40 g40248_1) 41 g41248_1) 47 g47248_1) 48 g48248_1) 43 (upd (vF 43) ((nI dN)).toNatClampNeg (vi 20))) 45 (upd (vF 45) ((nI dN)).toNatClampNeg (nI fn)) = fT (fT (fT (fT (fT (fT (fT (fT (fT (fT (fT (fT (fT (fT (fT vF 29 b29) 30 b30) 31 b31) 32 b32) 33 b33) 34 b34) 35 b35) 42 g42248_1) 41 g41248_1) 43 (upd (vF 43) ((nI dN)).toNatClampNeg (vi 20))) 45 (upd (vF 45) ((nI dN)).toNatClampNeg (nI fn))) 39 g39248_1) 40 g40248_1) 47 g47248_1) 48 g48248_1 := Eq.trans (mv_8 rfl) (Eq.trans (id_16 rfl) (Eq.trans (mv_7 rfl) (Eq.trans (id_15 rfl) (Eq.trans (mv_4 rfl) (Eq.trans (mv_2 rfl) (Eq.trans (mv_2 rfl) (Eq.trans (mv_6 rfl) (Eq.trans (mv_6 rfl) (Eq.trans (mv_6 rfl) (mv_6 rfl))))))))))
                have hP := wr_PF e9 hP
                have hD := wr_DF e9 hD
                clear e9
                exact W.vret hx hb hr (fun t9_ ht hW => ⟨⟨(a2243_1, f2243_1, sg243_1, wd243_1, s2248_1, p2248_1, b29, b30, b31, b32, b33, b34, b35, g39248_1, g40248_1, g41248_1, g42248_1, (upd (vF 43) ((nI dN)).toNatClampNeg (vi 20)), (vF 44), (upd (vF 45) ((nI dN)).toNatClampNeg (nI fn)), (vF 46), g47248_1, g48248_1, d2248_1, w2248_1, nd4, (vi 76), (vi 77), G4), rfl, by (try dsimp only); exact ⟨f243_1_0, by omega, f248_1_0, by rcases f248_1_1 with h9 | h9; (exact Or.inl h9); (exact Or.inr ⟨RdS.push (gm := gl) hK4.1 hBel hK4.2.1 (Nat.le_refl _) (fun q hq => ⟨rfl, rfl, by rw [upd_at (by omega), if_neg (by omega)], by rw [upd_at (by omega), if_neg (by omega), upd_at (by omega), if_neg (by omega)], rfl⟩) h39 (by decide) h48 (by omega) ⟨⟨by omega, fun _ => by omega, fun h8 => absurd h8 (by decide), Nat.le_refl _⟩, Or.inl ⟨rfl, rfl, hq0, rfl, rfl, 1, 0, Or.inr ⟨rfl, c1, by rw [upd_at (by omega), if_pos rfl], hL4⟩, Or.inl ⟨by rw [upd_at (by omega), if_pos rfl], rfl⟩, rfl⟩⟩ f248_1_2 (by rw [← hwc]; exact h9.2) (show (1 : Int32) = nI 1 by decide) (by decide) (by omega) (by omega) (by omega) (by omega) hK4.2.2.2 (by show 10 * (4000 - _) + dN + 1 + 1 ≤ mM - 1; omega), hK4.2.1.less (Nat.zero_le _)⟩), by omega⟩, by rw [ht]; exact hP, hD⟩, hS.F ht⟩) hS.2.2 dX12_readLinear_251
              · have f216_0 : ¬ ((vi 18).toInt = 4 ∧ (vi 20) = 45) := f216_0
                refine lv_if_eq (tgt := 252) hx hb dX12_readLinear_219 (by decide) (fun _ => ?_) (fun c9 => absurd (by decide) c9)
                refine lv_aload_n hx hb dX12_readLinear_252 rfl (lv_at hl 0 rfl) ?_
                refine lv_aload_n hx hb dX12_readLinear_253 rfl (lv_at hl 0 rfl) ?_
                refine va_get (D := (dC, dI)) (ci := 12) (v := .ref (a 41)) (C := RX12) (T := TX12) (N := 163) (fs := fM (vS a (fT vi 52 (nI nd4)) vj)) hx hb hts iwsRX12_readLinear_in12 hown hK hP 0 rfl rfl 66 (by decide) (hts _ hm_r_X12_readLinear_7) (fun _ h9 => h9) rfl dX12_readLinear_254 ?_
                refine lv_iload_n hx hb dX12_readLinear_257 rfl (lv_at hl 1 rfl) ?_
                refine va_iald (cA := k 41) (n := 120) (f := (upd (vF 41) ((nI dN)).toNatClampNeg (nI c1))) hx hb hK hP 42 41 (WR_get 41 (by decide)) (TR_get 41 (by decide)) (vp_in_nI (show dN < 120 by omega) (by omega)) dX12_readLinear_258 ?_
                refine lv_topi (fun y22 hy22 => ?_)
                obtain rfl : ((upd (vF 41) ((nI dN)).toNatClampNeg (nI c1)) dN) = y22 := (hy22.trans (by rw [nI_clamp (by omega)])).symm
                refine lv_topi (fun y23 hy23 => ?_)
                obtain rfl : (nI c1) = y23 := (hy23.trans (by rw [upd_at (by omega), if_pos rfl])).symm
                have hFc := allFree hD hS hA
                refine va_callv (va_runV (As := [.int (nI c1)]) (rest := []) ⟨hx, hb, hml, hown, hts⟩ (r_X12_end1w l dC dI a k h0 (fT vi 52 (nI nd4)) vj (fT (fT (fT (fT (fT (fT (fT (fT (fT vF 29 b29) 30 b30) 31 b31) 32 b32) 33 b33) 34 b34) 35 b35) 42 (upd (upd (vF 42) ((nI dN)).toNatClampNeg (nI c3)) ((nI dN)).toNatClampNeg (-1))) 41 (upd (vF 41) ((nI dN)).toNatClampNeg (nI c1))) vG (nI c1) dN wi xe (hdp) (by first | with_reducible assumption | decide | omega | rfl | assumption) hwi (by first | with_reducible assumption | decide | omega | rfl | assumption) (h48) (by first | with_reducible assumption | decide | omega | rfl | assumption) H.size) (cwV 1 hts gwsRX12_readLinear_4 rfl rfl rfl hd_yX12_end1_RX12 (by decide +kernel)) (fz_pre (va_recv hK hP (ci := 12) (q0 := 0) rfl rfl) hP hK hD) rfl rfl hl.1 rfl (lv_room (Nat.le_of_ble_eq_true rfl)) dX12_readLinear_259 (by decide +kernel)) hS (fun q _ h => hFc q h) hFc (fun u t9_ H locs ht hvm hw9 hB9 hz1 hk1 hS => ?_)
                have hP : va_P (dC, dI) vwCl (WR a k h0 (fT (fT (fT (fT (fT vi 52 (nI nd4)) 74 (nI dN)) 75 (nI (wi - xe))) 76 (nI c1)) 77 ((vF 47) dN)) vj (fT (fT (fT (fT (fT (fT (fT (fT (fT vF 29 b29) 30 b30) 31 b31) 32 b32) 33 b33) 34 b34) 35 b35) 42 (upd (upd (vF 42) ((nI dN)).toNatClampNeg (nI c3)) ((nI dN)).toNatClampNeg (-1))) 41 (upd (vF 41) ((nI dN)).toNatClampNeg (nI c1))) vG) H := fz_P ht hB9.1
                have hD := fz_sd hP (hB9.2.weaken (fun _ q _ h => hFc q.1 h)) rfl
                refine W.widen (k := 0) (n := 0) (by decide +kernel) (by decide +kernel) ?_
                have e9 : fT (fT (fT (fT (fT (fT (fT (fT (fT (fT (fT vi 52 (nI nd4)) 17 (nI an)) 19 (nI fn)) 20 (vi 20)) 18 (vi 18)) 75 (nI (wi - xe))) 74 (nI dN)) 21 (vi 21)) 22 (vi 22)) 76 (nI c1)) 77 ((vF 47) dN) = fT (fT (fT (fT (fT vi 52 (nI nd4)) 74 (nI dN)) 75 (nI (wi - xe))) 76 (nI c1)) 77 ((vF 47) dN) := Eq.trans (mv_9 rfl) (Eq.trans (congrArg (fT _ 17) (show nI an = vi 17 from (by first | with_reducible rfl | with_reducible assumption | (symm; with_reducible assumption) | rfl | assumption | (symm; assumption) | (subst_vars; rfl)))) (Eq.trans (id_10 rfl) (Eq.trans (mv_8 rfl) (Eq.trans (congrArg (fT _ 19) (show nI fn = vi 19 from (by first | with_reducible rfl | with_reducible assumption | (symm; with_reducible assumption) | rfl | assumption | (symm; assumption) | (subst_vars; rfl)))) (Eq.trans (id_9 rfl) (Eq.trans (mv_7 rfl) (Eq.trans (id_8 rfl) (Eq.trans (mv_6 rfl) (Eq.trans (id_7 rfl) (Eq.trans (mv_3 rfl) (Eq.trans (id_6 rfl) (Eq.trans (mv_2 rfl) (Eq.trans (id_5 rfl) (Eq.trans (mv_2 rfl) (Eq.trans (mv_3 rfl) (Eq.trans (mv_3 rfl) (mv_3 rfl)))))))))))))))))
                have hP := wr_Pi e9 hP
                have hD := wr_Di e9 hD
                clear e9
                have e9 : fT (fT (fT (fT (fT (fT (fT (fT (fT (fT (fT (fT (fT (fT (fT (fT (fT vF 29 b29) 30 b30) 31 b31) 32 b32) 33 b33) 34 b34) 35 b35) 42 (upd (upd (vF 42) ((nI dN)).toNatClampNeg (nI c3)) ((nI dN)).toNatClampNeg (-1))) 44 (vF 44)) 46 (vF 46)) 39 (vF 39)) 40 (vF 40)) 41 (upd (vF 41) ((nI dN)).toNatClampNeg (nI c1))) 47 (vF 47)) 48 (vF 48)) 43 (vF 43)) 45 (vF 45) = fT (fT (fT (fT (fT (fT (fT (fT (fT vF 29 b29) 30 b30) 31 b31) 32 b32) 33 b33) 34 b34) 35 b35) 42 (upd (upd (vF 42) ((nI dN)).toNatClampNeg (nI c3)) ((nI dN)).toNatClampNeg (-1))) 41 (upd (vF 41) ((nI dN)).toNatClampNeg (nI c1)) := Eq.trans (mv_8 rfl) (Eq.trans (id_16 rfl) (Eq.trans (mv_7 rfl) (Eq.trans (id_15 rfl) (Eq.trans (mv_6 rfl) (Eq.trans (id_14 rfl) (Eq.trans (mv_5 rfl) (Eq.trans (id_13 rfl) (Eq.trans (mv_3 rfl) (Eq.trans (id_12 rfl) (Eq.trans (mv_2 rfl) (Eq.trans (id_11 rfl) (Eq.trans (mv_1 rfl) (Eq.trans (id_10 rfl) (id_9 rfl))))))))))))))
                have hP := wr_PF e9 hP
                have hD := wr_DF e9 hD
                clear e9
                exact W.vret hx hb hr (fun t9_ ht hW => ⟨⟨(an, fn, (vi 20), (vi 18), (vi 21), (vi 22), b29, b30, b31, b32, b33, b34, b35, (vF 39), (vF 40), (upd (vF 41) ((nI dN)).toNatClampNeg (nI c1)), (upd (upd (vF 42) ((nI dN)).toNatClampNeg (nI c3)) ((nI dN)).toNatClampNeg (-1)), (vF 43), (vF 44), (vF 45), (vF 46), (vF 47), (vF 48), dN, (wi - xe), nd4, (nI c1), ((vF 47) dN), G4), rfl, by (try dsimp only); exact ⟨hLx, Nat.le_refl _, hst0, Or.inr ⟨by (have e9 : wi - xe = cw := by omega); rw [e9]; exact RdS.pop (ex := xe) hK4.1 hBel hK4.2.1 (Nat.le_refl _) (fun q hq => ⟨rfl, rfl, by rw [upd_at (by omega), if_neg (by omega)], by rw [upd_at (by omega), if_neg (by omega), upd_at (by omega), if_neg (by omega)], rfl⟩) (by omega) (fun _ => by omega) (by decide) (Or.inl ⟨by decide, hL4⟩) (by omega) (by omega) (by omega) (by omega) hK4.2.2.2 (by omega), hK4.2.1.less (Nat.zero_le _)⟩, by omega⟩, by rw [ht]; exact hP, hD⟩, hS.F ht⟩) hS.2.2 dX12_readLinear_262
  · have t_6 : (((vF 40) dN)).toInt = 0 := toI_nne c_6 rfl (by decide)
    have hz := hTq.linear.resolve_right (fun h => absurd (c_6.symm.trans h.1) (by decide))
    have hK0 := RdK.first (gl := gl) hRV (by omega)
    refine lv_aload_n hx hb dX12_readLinear_9 rfl (lv_at hl 0 rfl) ?_
    refine va_get (D := (dC, dI)) (ci := 12) (v := .ref (a 40)) (C := RX12) (T := TX12) (N := 163) (fs := fM (vS a vi vj)) hx hb hts iwsRX12_readLinear_in12 hown hK hP 0 rfl rfl 65 (by decide) (hts _ hm_r_X12_readLinear_0) (fun _ h9 => h9) rfl dX12_readLinear_10 ?_
    refine lv_iload_n hx hb dX12_readLinear_13 rfl (lv_at hl 1 rfl) ?_
    refine lv_iconst (v := 1) hx hb dX12_readLinear_14 (by decide) ?_
    refine va_iast (cA := k 40) (n := 120) (f := (vF 40)) hx hb hK hP hD hS 41 40 (WR_get 40 (by decide)) (TR_get 40 (by decide)) (vp_in_nI (show dN < 120 by omega) (by omega)) dX12_readLinear_15 (fun H locs hP hD hS => ?_)
    have hP : va_P (dC, dI) vwCl (WR a k h0 vi vj (fT vF 40 (upd (vF 40) ((nI dN)).toNatClampNeg 1)) vG) H := fz_w (WR_F 40 (by decide) _ rfl) hP
    have hD : va_D A (WR a k h0 vi vj (fT vF 40 (upd (vF 40) ((nI dN)).toNatClampNeg 1)) vG) := fz_wD (WR_F 40 (by decide) _ rfl) hD
    refine lv_aload_n hx hb dX12_readLinear_16 rfl (lv_at hl 0 rfl) ?_
    refine lv_iconst (v := 1) hx hb dX12_readLinear_17 (by decide) ?_
    have hFc := allFree hD hS hA
    refine va_callv (va_runV (As := [.int 1]) (rest := []) ⟨hx, hb, hml, hown, hts⟩ (r_X12_begin1 l dC dI a k h0 vi vj (fT vF 40 (upd (vF 40) ((nI dN)).toNatClampNeg 1)) vG 1 tp an fn nm se pa va bd (dN + 1) wi hTp (by first | with_reducible assumption | decide | omega | rfl | assumption) ha0 hfr (by first | with_reducible assumption | decide | omega | rfl | assumption) (by first | with_reducible assumption | decide | omega | rfl | assumption) hnm (by first | with_reducible assumption | decide | omega | rfl | assumption) (by first | with_reducible assumption | decide | omega | rfl | assumption) (by first | with_reducible assumption | decide | omega | rfl | assumption) hbd (by first | with_reducible assumption | decide | omega | rfl | assumption) (by first | with_reducible assumption | decide | omega | rfl | assumption) (hdp) (by first | with_reducible assumption | decide | omega | rfl | assumption) hwi (by first | with_reducible assumption | decide | omega | rfl | assumption) H.size) (cwV 1 hts gwsRX12_readLinear_3 rfl rfl rfl hd_yX12_begin1_RX12 (by decide +kernel)) (fz_pre (va_recv hK hP (ci := 12) (q0 := 0) rfl rfl) hP hK hD) rfl rfl hl.1 rfl (lv_room (Nat.le_of_ble_eq_true rfl)) dX12_readLinear_18 (by decide +kernel)) hS (fun q _ h => hFc q h) hFc (fun u t9_ H locs ht hvm hw9 hB9 hz1 hk1 hS => ?_)
    revert u hw9 hB9
    refine fz_p10 ?_
    intro s218 p218 g3918 g4018 g4118 g4218 g4718 g4818 d218 w218 hw9 hB9
    try dsimp only at hw9 hB9
    have e9F : fT (fT (fT (fT (fT (fT vF 40 g4018) 39 g3918) 41 g4118) 42 g4218) 47 g4718) 48 g4818 = fT (fT (fT (fT (fT (fT (fT vF 40 (upd (vF 40) ((nI dN)).toNatClampNeg 1)) 39 g3918) 40 g4018) 41 g4118) 42 g4218) 47 g4718) 48 g4818 := (congrArg (fun g9 => fT (fT (fT (fT g9 41 g4118) 42 g4218) 47 g4718) 48 g4818) ((fT_sw _ _ _ (Nat.ne_of_beq_eq_false rfl)).trans (congrArg (fun g9 => fT g9 39 g3918) (fT_sm _ _ _ _)))).symm
    have hP := wr_PF e9F (fz_P ht hB9.1)
    have hD := wr_DF e9F (hB9.2.weaken (fun _ q _ h => hFc q.1 h))
    clear e9F
    revert hw9
    refine fz_a4 ?_
    intro f18_0 f18_1 f18_2 f18_3
    have f18_1 : 0 < (s218).toInt ∨ (s218 = (vi 21) ∧ BgO 1 (vi 18) (vi 20) g3918 g4018 g4118 g4218 g4818 (dN + 1) wi d218 w218) := f18_1
    have f18_2 : FrmO (dN + 1) (vF 39) (upd (vF 40) ((nI dN)).toNatClampNeg 1) (vF 41) (vF 42) (vF 48) g3918 g4018 g4118 g4218 g4818 := f18_2
    refine W.widen (k := 0) (n := 0) (by decide +kernel) (by decide +kernel) ?_
    have e9 : fT (fT (fT (fT (fT (fT (fT (fT (fT (fT (fT vi 52 (nI nd)) 17 (nI an)) 19 (nI fn)) 20 (vi 20)) 18 (vi 18)) 75 (nI w218)) 74 (nI d218)) 21 s218) 22 p218) 76 (vi 76)) 77 (vi 77) = fT (fT (fT (fT vi 75 (nI w218)) 74 (nI d218)) 21 s218) 22 p218 := Eq.trans (mv_10 rfl) (Eq.trans (congrArg (fT _ 52) (show nI nd = vi 52 from (by first | with_reducible rfl | with_reducible assumption | (symm; with_reducible assumption) | rfl | assumption | (symm; assumption) | (subst_vars; rfl)))) (Eq.trans (id_10 rfl) (Eq.trans (mv_9 rfl) (Eq.trans (congrArg (fT _ 17) (show nI an = vi 17 from (by first | with_reducible rfl | with_reducible assumption | (symm; with_reducible assumption) | rfl | assumption | (symm; assumption) | (subst_vars; rfl)))) (Eq.trans (id_9 rfl) (Eq.trans (mv_8 rfl) (Eq.trans (congrArg (fT _ 19) (show nI fn = vi 19 from (by first | with_reducible rfl | with_reducible assumption | (symm; with_reducible assumption) | rfl | assumption | (symm; assumption) | (subst_vars; rfl)))) (Eq.trans (id_8 rfl) (Eq.trans (mv_7 rfl) (Eq.trans (id_7 rfl) (Eq.trans (mv_6 rfl) (Eq.trans (id_6 rfl) (Eq.trans (mv_1 rfl) (Eq.trans (id_5 rfl) (id_4 rfl)))))))))))))))
    have hP := wr_Pi e9 hP
    have hD := wr_Di e9 hD
    clear e9
    have e9 : fT (fT (fT (fT (fT (fT (fT (fT (fT (fT (fT (fT (fT (fT (fT (fT (fT vF 29 (vF 29)) 30 (vF 30)) 31 (vF 31)) 32 (vF 32)) 33 (vF 33)) 34 (vF 34)) 35 (vF 35)) 42 g4218) 44 (vF 44)) 46 (vF 46)) 39 g3918) 40 g4018) 41 g4118) 47 g4718) 48 g4818) 43 (vF 43)) 45 (vF 45) = fT (fT (fT (fT (fT (fT vF 40 g4018) 39 g3918) 41 g4118) 42 g4218) 47 g4718) 48 g4818 := Eq.trans (mv_16 rfl) (Eq.trans (id_16 rfl) (Eq.trans (mv_15 rfl) (Eq.trans (id_15 rfl) (Eq.trans (mv_14 rfl) (Eq.trans (id_14 rfl) (Eq.trans (mv_13 rfl) (Eq.trans (id_13 rfl) (Eq.trans (mv_12 rfl) (Eq.trans (id_12 rfl) (Eq.trans (mv_11 rfl) (Eq.trans (id_11 rfl) (Eq.trans (mv_10 rfl) (Eq.trans (id_10 rfl) (Eq.trans (mv_8 rfl) (Eq.trans (id_9 rfl) (Eq.trans (mv_7 rfl) (Eq.trans (id_8 rfl) (Eq.trans (mv_1 rfl) (Eq.trans (id_7 rfl) (Eq.trans (id_6 rfl) (Eq.trans (mv_3 rfl) (Eq.trans (mv_4 rfl) (Eq.trans (mv_4 rfl) (Eq.trans (mv_5 rfl) (Eq.trans (mv_5 rfl) (mv_5 rfl))))))))))))))))))))))))))
    have hP := wr_PF e9 hP
    have hD := wr_DF e9 hD
    clear e9
    exact W.vret hx hb hr (fun t9_ ht hW => ⟨⟨(an, fn, (vi 20), (vi 18), s218, p218, (vF 29), (vF 30), (vF 31), (vF 32), (vF 33), (vF 34), (vF 35), g3918, g4018, g4118, g4218, (vF 43), (vF 44), (vF 45), (vF 46), g4718, g4818, d218, w218, nd, (vi 76), (vi 77), gG), rfl, by (try dsimp only); exact ⟨hLx, by omega, f18_0, by rcases f18_1 with h9 | h9; (exact Or.inl h9); (exact Or.inr ⟨RdS.push (gm := gl) hK0.1 hBel hK0.2.1 (Nat.le_refl _) (fun q hq => ⟨rfl, by rw [upd_at (by omega), if_neg (by omega)], rfl, rfl, rfl⟩) h39 (by decide) h48 (by omega) ⟨⟨by omega, fun _ => by omega, fun h8 => absurd h8 (by decide), Nat.le_refl _⟩, Or.inl ⟨rfl, rfl, by rw [upd_at (by omega), if_pos rfl], rfl, rfl, 0, 0, Or.inl ⟨hz.2.1, rfl⟩, Or.inl ⟨hz.2.2.1, rfl⟩, rfl⟩⟩ f18_2 (by rw [← hwc]; exact h9.2) (show (1 : Int32) = nI 1 by decide) (by decide) (by omega) (by omega) (by omega) (by omega) (by omega) (by show 10 * (4000 - _) + dN + 1 + 1 ≤ mM - 1; omega), hK0.2.1.less (Nat.zero_le _)⟩), by omega⟩, by rw [ht]; exact hP, hD⟩, hS.F ht⟩) hS.2.2 dX12_readLinear_21
end
section
theorem dX12_readTruth_0 : decode cX12_readTruth 0 = .ok (.aload_n 0, 1) := dk_42 (by decide +kernel)
theorem dX12_readTruth_1 : decode cX12_readTruth 1 = .ok (.getfield 143, 3) := dk_180 (by decide +kernel)
theorem dX12_readTruth_4 : decode cX12_readTruth 4 = .ok (.iload_n 1, 1) := dk_27 (by decide +kernel)
theorem dX12_readTruth_5 : decode cX12_readTruth 5 = .ok (.iaload, 1) := dk_46 (by decide +kernel)
theorem dX12_readTruth_6 : decode cX12_readTruth 6 = .ok (.ifCond .ne 16, 3) := dk_154 (by decide +kernel)
theorem dX12_readTruth_9 : decode cX12_readTruth 9 = .ok (.aload_n 0, 1) := dk_42 (by decide +kernel)
theorem dX12_readTruth_10 : decode cX12_readTruth 10 = .ok (.getfield 143, 3) := dk_180 (by decide +kernel)
theorem dX12_readTruth_13 : decode cX12_readTruth 13 = .ok (.iload_n 1, 1) := dk_27 (by decide +kernel)
theorem dX12_readTruth_14 : decode cX12_readTruth 14 = .ok (.iconst 1, 1) := dk_4 (by decide +kernel)
theorem dX12_readTruth_15 : decode cX12_readTruth 15 = .ok (.iastore, 1) := dk_79 (by decide +kernel)
theorem dX12_readTruth_16 : decode cX12_readTruth 16 = .ok (.aload_n 0, 1) := dk_42 (by decide +kernel)
theorem dX12_readTruth_17 : decode cX12_readTruth 17 = .ok (.iconst 3, 1) := dk_6 (by decide +kernel)
theorem dX12_readTruth_18 : decode cX12_readTruth 18 = .ok (.invokevirtual 586, 3) := dk_182 (by decide +kernel)
theorem dX12_readTruth_21 : decode cX12_readTruth 21 = .ok (.return_, 1) := dk_177 (by decide +kernel)
theorem dX12_readTruth_22 : decode cX12_readTruth 22 = .ok (.aload_n 0, 1) := dk_42 (by decide +kernel)
theorem dX12_readTruth_23 : decode cX12_readTruth 23 = .ok (.getfield 149, 3) := dk_180 (by decide +kernel)
theorem dX12_readTruth_26 : decode cX12_readTruth 26 = .ok (.iload_n 1, 1) := dk_27 (by decide +kernel)
theorem dX12_readTruth_27 : decode cX12_readTruth 27 = .ok (.aload_n 0, 1) := dk_42 (by decide +kernel)
theorem dX12_readTruth_28 : decode cX12_readTruth 28 = .ok (.getfield 149, 3) := dk_180 (by decide +kernel)
theorem dX12_readTruth_31 : decode cX12_readTruth 31 = .ok (.iload_n 1, 1) := dk_27 (by decide +kernel)
theorem dX12_readTruth_32 : decode cX12_readTruth 32 = .ok (.iaload, 1) := dk_46 (by decide +kernel)
theorem dX12_readTruth_33 : decode cX12_readTruth 33 = .ok (.iconst (-1), 1) := dk_2 (by decide +kernel)
theorem dX12_readTruth_34 : decode cX12_readTruth 34 = .ok (.if_icmp .ne 10, 3) := dk_160 (by decide +kernel)
theorem dX12_readTruth_37 : decode cX12_readTruth 37 = .ok (.aload_n 0, 1) := dk_42 (by decide +kernel)
theorem dX12_readTruth_38 : decode cX12_readTruth 38 = .ok (.getfield 580, 3) := dk_180 (by decide +kernel)
theorem dX12_readTruth_41 : decode cX12_readTruth 41 = .ok (.goto 21, 3) := dk_167 (by decide +kernel)
theorem dX12_readTruth_44 : decode cX12_readTruth 44 = .ok (.aload_n 0, 1) := dk_42 (by decide +kernel)
theorem dX12_readTruth_45 : decode cX12_readTruth 45 = .ok (.bipush 11, 2) := dk_16 (by decide +kernel)
theorem dX12_readTruth_47 : decode cX12_readTruth 47 = .ok (.aload_n 0, 1) := dk_42 (by decide +kernel)
theorem dX12_readTruth_48 : decode cX12_readTruth 48 = .ok (.getfield 149, 3) := dk_180 (by decide +kernel)
theorem dX12_readTruth_51 : decode cX12_readTruth 51 = .ok (.iload_n 1, 1) := dk_27 (by decide +kernel)
theorem dX12_readTruth_52 : decode cX12_readTruth 52 = .ok (.iaload, 1) := dk_46 (by decide +kernel)
theorem dX12_readTruth_53 : decode cX12_readTruth 53 = .ok (.aload_n 0, 1) := dk_42 (by decide +kernel)
theorem dX12_readTruth_54 : decode cX12_readTruth 54 = .ok (.getfield 580, 3) := dk_180 (by decide +kernel)
theorem dX12_readTruth_57 : decode cX12_readTruth 57 = .ok (.iconst 0, 1) := dk_3 (by decide +kernel)
theorem dX12_readTruth_58 : decode cX12_readTruth 58 = .ok (.iconst 0, 1) := dk_3 (by decide +kernel)
theorem dX12_readTruth_59 : decode cX12_readTruth 59 = .ok (.invokevirtual 601, 3) := dk_182 (by decide +kernel)
theorem dX12_readTruth_62 : decode cX12_readTruth 62 = .ok (.iastore, 1) := dk_79 (by decide +kernel)
theorem dX12_readTruth_63 : decode cX12_readTruth 63 = .ok (.aload_n 0, 1) := dk_42 (by decide +kernel)
theorem dX12_readTruth_64 : decode cX12_readTruth 64 = .ok (.bipush 9, 2) := dk_16 (by decide +kernel)
theorem dX12_readTruth_66 : decode cX12_readTruth 66 = .ok (.invokevirtual 530, 3) := dk_182 (by decide +kernel)
theorem dX12_readTruth_69 : decode cX12_readTruth 69 = .ok (.ifCond .eq 13, 3) := dk_153 (by decide +kernel)
theorem dX12_readTruth_72 : decode cX12_readTruth 72 = .ok (.aload_n 0, 1) := dk_42 (by decide +kernel)
theorem dX12_readTruth_73 : decode cX12_readTruth 73 = .ok (.invokevirtual 524, 3) := dk_182 (by decide +kernel)
theorem dX12_readTruth_76 : decode cX12_readTruth 76 = .ok (.aload_n 0, 1) := dk_42 (by decide +kernel)
theorem dX12_readTruth_77 : decode cX12_readTruth 77 = .ok (.iconst 3, 1) := dk_6 (by decide +kernel)
theorem dX12_readTruth_78 : decode cX12_readTruth 78 = .ok (.invokevirtual 586, 3) := dk_182 (by decide +kernel)
theorem dX12_readTruth_81 : decode cX12_readTruth 81 = .ok (.return_, 1) := dk_177 (by decide +kernel)
theorem dX12_readTruth_82 : decode cX12_readTruth 82 = .ok (.aload_n 0, 1) := dk_42 (by decide +kernel)
theorem dX12_readTruth_83 : decode cX12_readTruth 83 = .ok (.getfield 146, 3) := dk_180 (by decide +kernel)
theorem dX12_readTruth_86 : decode cX12_readTruth 86 = .ok (.iload_n 1, 1) := dk_27 (by decide +kernel)
theorem dX12_readTruth_87 : decode cX12_readTruth 87 = .ok (.aload_n 0, 1) := dk_42 (by decide +kernel)
theorem dX12_readTruth_88 : decode cX12_readTruth 88 = .ok (.getfield 146, 3) := dk_180 (by decide +kernel)
theorem dX12_readTruth_91 : decode cX12_readTruth 91 = .ok (.iload_n 1, 1) := dk_27 (by decide +kernel)
theorem dX12_readTruth_92 : decode cX12_readTruth 92 = .ok (.iaload, 1) := dk_46 (by decide +kernel)
theorem dX12_readTruth_93 : decode cX12_readTruth 93 = .ok (.iconst (-1), 1) := dk_2 (by decide +kernel)
theorem dX12_readTruth_94 : decode cX12_readTruth 94 = .ok (.if_icmp .ne 12, 3) := dk_160 (by decide +kernel)
theorem dX12_readTruth_97 : decode cX12_readTruth 97 = .ok (.aload_n 0, 1) := dk_42 (by decide +kernel)
theorem dX12_readTruth_98 : decode cX12_readTruth 98 = .ok (.getfield 149, 3) := dk_180 (by decide +kernel)
theorem dX12_readTruth_101 : decode cX12_readTruth 101 = .ok (.iload_n 1, 1) := dk_27 (by decide +kernel)
theorem dX12_readTruth_102 : decode cX12_readTruth 102 = .ok (.iaload, 1) := dk_46 (by decide +kernel)
theorem dX12_readTruth_103 : decode cX12_readTruth 103 = .ok (.goto 23, 3) := dk_167 (by decide +kernel)
theorem dX12_readTruth_106 : decode cX12_readTruth 106 = .ok (.aload_n 0, 1) := dk_42 (by decide +kernel)
theorem dX12_readTruth_107 : decode cX12_readTruth 107 = .ok (.bipush 10, 2) := dk_16 (by decide +kernel)
theorem dX12_readTruth_109 : decode cX12_readTruth 109 = .ok (.aload_n 0, 1) := dk_42 (by decide +kernel)
theorem dX12_readTruth_110 : decode cX12_readTruth 110 = .ok (.getfield 146, 3) := dk_180 (by decide +kernel)
theorem dX12_readTruth_113 : decode cX12_readTruth 113 = .ok (.iload_n 1, 1) := dk_27 (by decide +kernel)
theorem dX12_readTruth_114 : decode cX12_readTruth 114 = .ok (.iaload, 1) := dk_46 (by decide +kernel)
theorem dX12_readTruth_115 : decode cX12_readTruth 115 = .ok (.aload_n 0, 1) := dk_42 (by decide +kernel)
theorem dX12_readTruth_116 : decode cX12_readTruth 116 = .ok (.getfield 149, 3) := dk_180 (by decide +kernel)
theorem dX12_readTruth_119 : decode cX12_readTruth 119 = .ok (.iload_n 1, 1) := dk_27 (by decide +kernel)
theorem dX12_readTruth_120 : decode cX12_readTruth 120 = .ok (.iaload, 1) := dk_46 (by decide +kernel)
theorem dX12_readTruth_121 : decode cX12_readTruth 121 = .ok (.iconst 0, 1) := dk_3 (by decide +kernel)
theorem dX12_readTruth_122 : decode cX12_readTruth 122 = .ok (.iconst 0, 1) := dk_3 (by decide +kernel)
theorem dX12_readTruth_123 : decode cX12_readTruth 123 = .ok (.invokevirtual 601, 3) := dk_182 (by decide +kernel)
theorem dX12_readTruth_126 : decode cX12_readTruth 126 = .ok (.iastore, 1) := dk_79 (by decide +kernel)
theorem dX12_readTruth_127 : decode cX12_readTruth 127 = .ok (.aload_n 0, 1) := dk_42 (by decide +kernel)
theorem dX12_readTruth_128 : decode cX12_readTruth 128 = .ok (.getfield 149, 3) := dk_180 (by decide +kernel)
theorem dX12_readTruth_131 : decode cX12_readTruth 131 = .ok (.iload_n 1, 1) := dk_27 (by decide +kernel)
theorem dX12_readTruth_132 : decode cX12_readTruth 132 = .ok (.iconst (-1), 1) := dk_2 (by decide +kernel)
theorem dX12_readTruth_133 : decode cX12_readTruth 133 = .ok (.iastore, 1) := dk_79 (by decide +kernel)
theorem dX12_readTruth_134 : decode cX12_readTruth 134 = .ok (.aload_n 0, 1) := dk_42 (by decide +kernel)
theorem dX12_readTruth_135 : decode cX12_readTruth 135 = .ok (.bipush 7, 2) := dk_16 (by decide +kernel)
theorem dX12_readTruth_137 : decode cX12_readTruth 137 = .ok (.invokevirtual 530, 3) := dk_182 (by decide +kernel)
theorem dX12_readTruth_140 : decode cX12_readTruth 140 = .ok (.ifCond .eq 13, 3) := dk_153 (by decide +kernel)
theorem dX12_readTruth_143 : decode cX12_readTruth 143 = .ok (.aload_n 0, 1) := dk_42 (by decide +kernel)
theorem dX12_readTruth_144 : decode cX12_readTruth 144 = .ok (.invokevirtual 524, 3) := dk_182 (by decide +kernel)
theorem dX12_readTruth_147 : decode cX12_readTruth 147 = .ok (.aload_n 0, 1) := dk_42 (by decide +kernel)
theorem dX12_readTruth_148 : decode cX12_readTruth 148 = .ok (.iconst 3, 1) := dk_6 (by decide +kernel)
theorem dX12_readTruth_149 : decode cX12_readTruth 149 = .ok (.invokevirtual 586, 3) := dk_182 (by decide +kernel)
theorem dX12_readTruth_152 : decode cX12_readTruth 152 = .ok (.return_, 1) := dk_177 (by decide +kernel)
theorem dX12_readTruth_153 : decode cX12_readTruth 153 = .ok (.aload_n 0, 1) := dk_42 (by decide +kernel)
theorem dX12_readTruth_154 : decode cX12_readTruth 154 = .ok (.aload_n 0, 1) := dk_42 (by decide +kernel)
theorem dX12_readTruth_155 : decode cX12_readTruth 155 = .ok (.getfield 146, 3) := dk_180 (by decide +kernel)
theorem dX12_readTruth_158 : decode cX12_readTruth 158 = .ok (.iload_n 1, 1) := dk_27 (by decide +kernel)
theorem dX12_readTruth_159 : decode cX12_readTruth 159 = .ok (.iaload, 1) := dk_46 (by decide +kernel)
theorem dX12_readTruth_160 : decode cX12_readTruth 160 = .ok (.invokevirtual 605, 3) := dk_182 (by decide +kernel)
theorem dX12_readTruth_163 : decode cX12_readTruth 163 = .ok (.return_, 1) := dk_177 (by decide +kernel)
def wsRX12_readTruth : List Cond := .code yX12_readTruth cX12_readTruth 2 none :: ([.fieldLink RX12 143 "OptimaWorksModel" "step" "[I", .fieldLink RX12 149 "OptimaWorksModel" "got2" "[I", .fieldLink RX12 580 "OptimaWorksModel" "result" "I", .fieldLink RX12 146 "OptimaWorksModel" "got1" "[I"] ++ wsX120 ++ (wsV RX12 601 RX12 yX12_node wsRX12_node) ++ (wsV RX12 530 RX12 yX12_isKey wsRX12_isKey) ++ (wsV RX12 524 RX12 yX12_next wsRX12_next) ++ (wsV RX12 586 RX12 yX12_begin1 wsRX12_begin1) ++ (wsV RX12 605 RX12 yX12_end1 wsRend1w))
theorem iwsRX12_readTruth_in12 : ∀ w ∈ wsX120, w ∈ wsRX12_readTruth := fun _ h => List.mem_cons_of_mem _ (List.mem_append_left _ (List.mem_append_left _ (List.mem_append_left _ (List.mem_append_left _ (List.mem_append_left _ (List.mem_append_right _ h))))))
theorem gwsRX12_readTruth_0 : GoodIn wsRX12_readTruth (wsV RX12 601 RX12 yX12_node wsRX12_node) := goodIn_sub (fun _ h => List.mem_cons_of_mem _ (List.mem_append_left _ (List.mem_append_left _ (List.mem_append_left _ (List.mem_append_left _ (List.mem_append_right _ h)))))) (gdV (by decide +kernel) gdwsRX12_node)
theorem gwsRX12_readTruth_1 : GoodIn wsRX12_readTruth (wsV RX12 530 RX12 yX12_isKey wsRX12_isKey) := goodIn_sub (fun _ h => List.mem_cons_of_mem _ (List.mem_append_left _ (List.mem_append_left _ (List.mem_append_left _ (List.mem_append_right _ h))))) (gdV (by decide +kernel) gdwsRX12_isKey)
theorem gwsRX12_readTruth_2 : GoodIn wsRX12_readTruth (wsV RX12 524 RX12 yX12_next wsRX12_next) := goodIn_sub (fun _ h => List.mem_cons_of_mem _ (List.mem_append_left _ (List.mem_append_left _ (List.mem_append_right _ h)))) (gdV (by decide +kernel) gdwsRX12_next)
theorem gwsRX12_readTruth_3 : GoodIn wsRX12_readTruth (wsV RX12 586 RX12 yX12_begin1 wsRX12_begin1) := goodIn_sub (fun _ h => List.mem_cons_of_mem _ (List.mem_append_left _ (List.mem_append_right _ h))) (gdV (by decide +kernel) gdwsRX12_begin1)
theorem gwsRX12_readTruth_4 : GoodIn wsRX12_readTruth (wsV RX12 605 RX12 yX12_end1 wsRend1w) := goodIn_sub (fun _ h => List.mem_cons_of_mem _ (List.mem_append_right _ h)) (gdV (by decide +kernel) gdwsRend1w)
theorem gdwsRX12_readTruth : wsRX12_readTruth.all goodWord = true := gdC rfl (gdA (gdA (gdA (gdA (gdA (gdA (by decide +kernel : ([.fieldLink RX12 143 "OptimaWorksModel" "step" "[I", .fieldLink RX12 149 "OptimaWorksModel" "got2" "[I", .fieldLink RX12 580 "OptimaWorksModel" "result" "I", .fieldLink RX12 146 "OptimaWorksModel" "got1" "[I"] : List Cond).all goodWord = true) gdwsX120) (gdV (by decide +kernel) gdwsRX12_node)) (gdV (by decide +kernel) gdwsRX12_isKey)) (gdV (by decide +kernel) gdwsRX12_next)) (gdV (by decide +kernel) gdwsRX12_begin1)) (gdV (by decide +kernel) gdwsRend1w))
theorem hm_r_X12_readTruth_0 : (.fieldLink RX12 143 "OptimaWorksModel" "step" "[I" : Cond) ∈ wsRX12_readTruth := by decide +kernel
theorem hm_r_X12_readTruth_1 : (.fieldLink RX12 149 "OptimaWorksModel" "got2" "[I" : Cond) ∈ wsRX12_readTruth := by decide +kernel
theorem hm_r_X12_readTruth_2 : (.fieldLink RX12 580 "OptimaWorksModel" "result" "I" : Cond) ∈ wsRX12_readTruth := by decide +kernel
theorem hm_r_X12_readTruth_3 : (.fieldLink RX12 146 "OptimaWorksModel" "got1" "[I" : Cond) ∈ wsRX12_readTruth := by decide +kernel
set_option maxHeartbeats 4000000 in
set_option maxRecDepth 100000 in
/-- readTruth(d) -/
theorem r_X12_readTruth (l : Launch) (dC : Nat → ClassId) (dI : Nat → Nat → Nat) (a : Nat → Nat) (k : Nat → ClassId) (h0 : Nat) (vi : Nat → Int32) (vj : Nat → Int64) (vF : Nat → Nat → Int32) (vG : Nat → Nat → Int64) (tp : Nat) (an : Nat) (fn : Nat) (nm : Nat) (se : Nat) (pa : Nat) (va : Nat) (bd : Nat) (tT : Nat → Nat → Int32) (gG : RG) (bs : Nat) (r0 : Nat) (dN : Nat) (wi : Nat) (nd : Nat) (mM : Nat) (cw : Nat) (uu : Nat) (pe : Nat) (un : Nat) (gl : Nat) (gm : Nat) (xe : Nat) (p1 : Nat) (n1 : Nat) (m1 : Nat) (tw : Nat) (hTp : vi 16 = nI tp) (htp : tp ≤ 4000) (ha0 : vi 17 = nI an) (hfr : vi 19 = nI fn) (hLx : LxO tp fn an (vi 18) (vi 20)) (hst0 : 0 ≤ (vi 21).toInt) (hnm : vi 25 = nI nm) (hnm40 : nm ≤ 40) (hno : NmO (vF 11) (vF 12) nm) (hNk : NkO (vF 10) (vF 13) nm se pa va) (hbd : vi 30 = nI bd) (hbd60 : bd ≤ 60) (hbo : NmO (vF 14) (vF 15) 60) (hse44 : se ≤ 44) (hRV : RdV tT gG (vF 29) (vF 30) (vF 31) (vF 32) (vF 36) (vF 37) (vF 38) se nd bs) (hRT : RdT tT gG (vF 29) (vF 30) (vF 31) (vF 32) (vF 36) (vF 37) (vF 38) (vF 39) (vF 40) (vF 41) (vF 42) (vF 48) (vi 18) (vi 20) (vi 76) se bs r0 dN wi nd bd fn mM 2 cw uu pe un gl gm xe p1 n1 m1 tw) (hdp : vi 74 = nI (dN + 1)) (hwi : vi 75 = nI wi) (hnd : vi 52 = nI nd) (sz : Nat) : Met l yX12_readTruth wsRX12_readTruth ({ frames := 8, cells := 0, slots := 0, locals := 173 }) (va_Pc [.ref h0, .int (nI dN)] (fun U => U.heap.size = sz ∧ va_P (dC, dI) vwCl (WR a k h0 vi vj vF vG) U.heap ∧ va_K (dC, dI) vwCl (tX12 k) U ∧ va_D (fun _ => True) (WR a k h0 vi vj vF vG) ∧ StrA (va_A (WR a k h0 vi vj vF vG) sz) U U.heap)) (va_Qv (fun (u : (Nat) × (Nat) × (Int32) × (Int32) × (Int32) × (Int32) × (Nat → Int32) × (Nat → Int32) × (Nat → Int32) × (Nat → Int32) × (Nat → Int32) × (Nat → Int32) × (Nat → Int32) × (Nat → Int32) × (Nat → Int32) × (Nat → Int32) × (Nat → Int32) × (Nat → Int32) × (Nat → Int32) × (Nat) × (Nat) × (Nat) × (Int32) × (Int32) × (RG)) => (LxO tp (u.2.1) (u.1) (u.2.2.2.1) (u.2.2.1)) ∧ (fn ≤ (u.2.1)) ∧ (0 ≤ ((u.2.2.2.2.1)).toInt) ∧ (0 < ((u.2.2.2.2.1)).toInt ∨ (RdS tT (u.2.2.2.2.2.2.2.2.2.2.2.2.2.2.2.2.2.2.2.2.2.2.2.2) (u.2.2.2.2.2.2.1) (u.2.2.2.2.2.2.2.1) (u.2.2.2.2.2.2.2.2.1) (u.2.2.2.2.2.2.2.2.2.1) (vF 36) (vF 37) (vF 38) (u.2.2.2.2.2.2.2.2.2.2.2.2.2.1) (u.2.2.2.2.2.2.2.2.2.2.2.2.2.2.1) (u.2.2.2.2.2.2.2.2.2.2.2.2.2.2.2.1) (u.2.2.2.2.2.2.2.2.2.2.2.2.2.2.2.2.1) (u.2.2.2.2.2.2.2.2.2.2.2.2.2.2.2.2.2.2.1) (u.2.2.2.1) (u.2.2.1) (u.2.2.2.2.2.2.2.2.2.2.2.2.2.2.2.2.2.2.2.2.2.2.1) se bs r0 (u.2.2.2.2.2.2.2.2.2.2.2.2.2.2.2.2.2.2.2.1) (u.2.2.2.2.2.2.2.2.2.2.2.2.2.2.2.2.2.2.2.2.1) (u.2.2.2.2.2.2.2.2.2.2.2.2.2.2.2.2.2.2.2.2.2.1) bd (u.2.1) (mM - 1) ∧ Ext 0 bs gG (vF 29) (vF 30) (vF 31) (vF 32) (vF 36) (vF 37) (vF 38) (u.2.2.2.2.2.2.2.2.2.2.2.2.2.2.2.2.2.2.2.2.2.2.2.2) (u.2.2.2.2.2.2.1) (u.2.2.2.2.2.2.2.1) (u.2.2.2.2.2.2.2.2.1) (u.2.2.2.2.2.2.2.2.2.1) (vF 36) (vF 37) (vF 38))) ∧ ((u.2.2.2.2.2.2.2.2.2.2.2.2.2.2.2.2.2.2.2.1) ≤ dN + 2)) (fun (u : (Nat) × (Nat) × (Int32) × (Int32) × (Int32) × (Int32) × (Nat → Int32) × (Nat → Int32) × (Nat → Int32) × (Nat → Int32) × (Nat → Int32) × (Nat → Int32) × (Nat → Int32) × (Nat → Int32) × (Nat → Int32) × (Nat → Int32) × (Nat → Int32) × (Nat → Int32) × (Nat → Int32) × (Nat) × (Nat) × (Nat) × (Int32) × (Int32) × (RG)) t => va_P (dC, dI) vwCl (WR a k h0 (fT (fT (fT (fT (fT (fT (fT (fT (fT (fT (fT vi 52 (nI (u.2.2.2.2.2.2.2.2.2.2.2.2.2.2.2.2.2.2.2.2.2.1))) 17 (nI (u.1))) 19 (nI (u.2.1))) 20 (u.2.2.1)) 18 (u.2.2.2.1)) 75 (nI (u.2.2.2.2.2.2.2.2.2.2.2.2.2.2.2.2.2.2.2.2.1))) 74 (nI (u.2.2.2.2.2.2.2.2.2.2.2.2.2.2.2.2.2.2.2.1))) 21 (u.2.2.2.2.1)) 22 (u.2.2.2.2.2.1)) 76 (u.2.2.2.2.2.2.2.2.2.2.2.2.2.2.2.2.2.2.2.2.2.2.1)) 77 (u.2.2.2.2.2.2.2.2.2.2.2.2.2.2.2.2.2.2.2.2.2.2.2.1)) vj (fT (fT (fT (fT (fT (fT (fT (fT (fT (fT (fT (fT (fT vF 29 (u.2.2.2.2.2.2.1)) 30 (u.2.2.2.2.2.2.2.1)) 31 (u.2.2.2.2.2.2.2.2.1)) 32 (u.2.2.2.2.2.2.2.2.2.1)) 33 (u.2.2.2.2.2.2.2.2.2.2.1)) 34 (u.2.2.2.2.2.2.2.2.2.2.2.1)) 35 (u.2.2.2.2.2.2.2.2.2.2.2.2.1)) 42 (u.2.2.2.2.2.2.2.2.2.2.2.2.2.2.2.2.1)) 39 (u.2.2.2.2.2.2.2.2.2.2.2.2.2.1)) 40 (u.2.2.2.2.2.2.2.2.2.2.2.2.2.2.1)) 41 (u.2.2.2.2.2.2.2.2.2.2.2.2.2.2.2.1)) 47 (u.2.2.2.2.2.2.2.2.2.2.2.2.2.2.2.2.2.1)) 48 (u.2.2.2.2.2.2.2.2.2.2.2.2.2.2.2.2.2.2.1)) vG) t.heap ∧ va_D (va_A (WR a k h0 vi vj vF vG) sz) (WR a k h0 (fT (fT (fT (fT (fT (fT (fT (fT (fT (fT (fT vi 52 (nI (u.2.2.2.2.2.2.2.2.2.2.2.2.2.2.2.2.2.2.2.2.2.1))) 17 (nI (u.1))) 19 (nI (u.2.1))) 20 (u.2.2.1)) 18 (u.2.2.2.1)) 75 (nI (u.2.2.2.2.2.2.2.2.2.2.2.2.2.2.2.2.2.2.2.2.1))) 74 (nI (u.2.2.2.2.2.2.2.2.2.2.2.2.2.2.2.2.2.2.2.1))) 21 (u.2.2.2.2.1)) 22 (u.2.2.2.2.2.1)) 76 (u.2.2.2.2.2.2.2.2.2.2.2.2.2.2.2.2.2.2.2.2.2.2.1)) 77 (u.2.2.2.2.2.2.2.2.2.2.2.2.2.2.2.2.2.2.2.2.2.2.2.1)) vj (fT (fT (fT (fT (fT (fT (fT (fT (fT (fT (fT (fT (fT vF 29 (u.2.2.2.2.2.2.1)) 30 (u.2.2.2.2.2.2.2.1)) 31 (u.2.2.2.2.2.2.2.2.1)) 32 (u.2.2.2.2.2.2.2.2.2.1)) 33 (u.2.2.2.2.2.2.2.2.2.2.1)) 34 (u.2.2.2.2.2.2.2.2.2.2.2.1)) 35 (u.2.2.2.2.2.2.2.2.2.2.2.2.1)) 42 (u.2.2.2.2.2.2.2.2.2.2.2.2.2.2.2.2.1)) 39 (u.2.2.2.2.2.2.2.2.2.2.2.2.2.1)) 40 (u.2.2.2.2.2.2.2.2.2.2.2.2.2.2.1)) 41 (u.2.2.2.2.2.2.2.2.2.2.2.2.2.2.2.1)) 47 (u.2.2.2.2.2.2.2.2.2.2.2.2.2.2.2.2.2.1)) 48 (u.2.2.2.2.2.2.2.2.2.2.2.2.2.2.2.2.2.2.1)) vG)) (va_A (WR a k h0 vi vj vF vG) sz)) 0 0 (va_A (WR a k h0 vi vj vF vG) sz) := by
  refine Met.ofW (cc := cX12_readTruth) (maxL := 2) (ret := none) (by decide) rfl ?_
  intro p e s m args below meth c s₁ B hml hv
  obtain ⟨rfl, hsz, hP, hK, hD0, hE⟩ := hv
  have hx := B.exec
  have hb := B.bytes
  have hr := B.returns
  have hts := atoms_spec (ws := wsRX12_readTruth) B.pre
  have hown : s.vm.findClass RX12 = some m.cls := findClass_of_methodNamed B.named
  have hlocks := B.notSynchronized
  subst hsz
  have hD := hD0.self (sz := s.heap.size)
  generalize hAe : va_A (WR a k h0 vi vj vF vG) s.heap.size = A at hD hE ⊢
  have hA : ∀ q : Nat, s.heap.size ≤ q → A q := fun q h => by rw [← hAe]; exact Or.inr h
  have hS : va_S A s.heap s.heap [] := va_S.rf
  have hl := lv_entry ([.ref h0, .int (nI dN)]) (n := 2) (Nat.le_of_ble_eq_true rfl)
  rw [lg_entry_eq]
  generalize (lg_sl ([.ref h0, .int (nI dN)]) ++ List.replicate (2 - (lg_sl ([.ref h0, .int (nI dN)])).length) Slot.unset).toArray = ls at hl ⊢
  have hl : lv_has ls 2 [(0, .ref h0), (1, .int (nI dN))] := hl
  have hfa := hLx.1
  have han := hLx.2.1
  have han4 : an ≤ 4000 := by omega
  obtain ⟨⟨h39, _, h48⟩, hBel, ⟨h25, hwc⟩, hTq, hc1, hc2, hc3, hc4, hc5, hc6⟩ := hRT
  have hdd := hBel.deep
  refine lv_aload_n hx hb dX12_readTruth_0 rfl (lv_at hl 0 rfl) ?_
  refine va_get (D := (dC, dI)) (ci := 12) (v := .ref (a 40)) (C := RX12) (T := TX12) (N := 163) (fs := fM (vS a vi vj)) hx hb hts iwsRX12_readTruth_in12 hown hK hP 0 rfl rfl 65 (by decide) (hts _ hm_r_X12_readTruth_0) (fun _ h9 => h9) rfl dX12_readTruth_1 ?_
  refine lv_iload_n hx hb dX12_readTruth_4 rfl (lv_at hl 1 rfl) ?_
  refine va_iald (cA := k 40) (n := 120) (f := (vF 40)) hx hb hK hP 41 40 (WR_get 40 (by decide)) (TR_get 40 (by decide)) (vp_in_nI (show dN < 120 by omega) (by omega)) dX12_readTruth_5 ?_
  refine lv_topi (fun y1 hy1 => ?_)
  obtain rfl : ((vF 40) dN) = y1 := (hy1.trans (by rw [nI_clamp (by omega)])).symm
  refine lv_if_ne (tgt := 22) hx hb dX12_readTruth_6 (by decide) (fun c_6 => ?_) (fun c_6 => ?_)
  · have t_6 : (((vF 40) dN)).toInt ≠ 0 := toI_ne c_6 rfl (by decide)
    obtain ⟨hq0, hq1, hq2, hq3, hq4, hq5, qa, qb, cR, hO1, hO2, hp1, hres, hcR⟩ := hTq.truth.resolve_left (fun h => c_6 h.1)
    have hK0 := RdK.first (gl := gl) hRV (by omega)
    refine lv_aload_n hx hb dX12_readTruth_22 rfl (lv_at hl 0 rfl) ?_
    refine va_get (D := (dC, dI)) (ci := 12) (v := .ref (a 42)) (C := RX12) (T := TX12) (N := 163) (fs := fM (vS a vi vj)) hx hb hts iwsRX12_readTruth_in12 hown hK hP 0 rfl rfl 67 (by decide) (hts _ hm_r_X12_readTruth_1) (fun _ h9 => h9) rfl dX12_readTruth_23 ?_
    refine lv_iload_n hx hb dX12_readTruth_26 rfl (lv_at hl 1 rfl) ?_
    refine lv_aload_n hx hb dX12_readTruth_27 rfl (lv_at hl 0 rfl) ?_
    refine va_get (D := (dC, dI)) (ci := 12) (v := .ref (a 42)) (C := RX12) (T := TX12) (N := 163) (fs := fM (vS a vi vj)) hx hb hts iwsRX12_readTruth_in12 hown hK hP 0 rfl rfl 67 (by decide) (hts _ hm_r_X12_readTruth_1) (fun _ h9 => h9) rfl dX12_readTruth_28 ?_
    refine lv_iload_n hx hb dX12_readTruth_31 rfl (lv_at hl 1 rfl) ?_
    refine va_iald (cA := k 42) (n := 120) (f := (vF 42)) hx hb hK hP 43 42 (WR_get 42 (by decide)) (TR_get 42 (by decide)) (vp_in_nI (show dN < 120 by omega) (by omega)) dX12_readTruth_32 ?_
    refine lv_topi (fun y2 hy2 => ?_)
    obtain rfl : ((vF 42) dN) = y2 := (hy2.trans (by rw [nI_clamp (by omega)])).symm
    refine lv_iconst (v := (-1)) hx hb dX12_readTruth_33 (by decide) ?_
    refine W.cut (pc := 62) (fun H locs ls stk => ∃ (c3 : Nat) (G3 : RG) (nd3 : Nat) (a29 : Nat → Int32) (a30 : Nat → Int32) (a31 : Nat → Int32) (a32 : Nat → Int32) (a33 : Nat → Int32) (a34 : Nat → Int32) (a35 : Nat → Int32), (RdK tT gG (vF 29) (vF 30) (vF 31) (vF 32) (vF 36) (vF 37) (vF 38) G3 a29 a30 a31 a32 (vF 36) (vF 37) (vF 38) se nd3 bs gl) ∧ (TruO G3 a29 c3 (51 - 2 * (cw + xe))) ∧ (nd3 + pe + qa ≤ fn ∧ G3.vN + un ≤ nd3) ∧  stk = [.int (nI c3), .int (nI dN), .ref (a 42)] ∧ va_P (dC, dI) vwCl (WR a k h0 (fT vi 52 (nI nd3)) vj (fT (fT (fT (fT (fT (fT (fT vF 29 a29) 30 a30) 31 a31) 32 a32) 33 a33) 34 a34) 35 a35) vG) H ∧ va_D A (WR a k h0 (fT vi 52 (nI nd3)) vj (fT (fT (fT (fT (fT (fT (fT vF 29 a29) 30 a30) 31 a31) 32 a32) 33 a33) 34 a34) 35 a35) vG) ∧ va_S A s.heap H locs ∧ lv_has ls 2 [(0, .ref h0), (1, .int (nI dN))]) (fun join1 => ?_) ?_
    · refine lv_icmp_ne (tgt := 44) hx hb dX12_readTruth_34 (by decide) (fun c_34 => ?_) (fun c_34 => ?_)
      · have t_34 : (((vF 42) dN)).toInt ≠ -1 := toI_ne c_34 rfl (by decide)
        obtain ⟨hb1, cO, hcO, hcL⟩ := hO2.resolve_left (fun h => c_34 h.1)
        refine lv_aload_n hx hb dX12_readTruth_44 rfl (lv_at hl 0 rfl) ?_
        refine lv_bipush (v := 11) hx hb dX12_readTruth_45 (by decide) ?_
        refine lv_aload_n hx hb dX12_readTruth_47 rfl (lv_at hl 0 rfl) ?_
        refine va_get (D := (dC, dI)) (ci := 12) (v := .ref (a 42)) (C := RX12) (T := TX12) (N := 163) (fs := fM (vS a vi vj)) hx hb hts iwsRX12_readTruth_in12 hown hK hP 0 rfl rfl 67 (by decide) (hts _ hm_r_X12_readTruth_1) (fun _ h9 => h9) rfl dX12_readTruth_48 ?_
        refine lv_iload_n hx hb dX12_readTruth_51 rfl (lv_at hl 1 rfl) ?_
        refine va_iald (cA := k 42) (n := 120) (f := (vF 42)) hx hb hK hP 43 42 (WR_get 42 (by decide)) (TR_get 42 (by decide)) (vp_in_nI (show dN < 120 by omega) (by omega)) dX12_readTruth_52 ?_
        refine lv_topi (fun y3 hy3 => ?_)
        obtain rfl : ((vF 42) dN) = y3 := (hy3.trans (by rw [nI_clamp (by omega)])).symm
        refine lv_topi (fun y4 hy4 => ?_)
        obtain rfl : (nI cO) = y4 := (hy4.trans (hcO)).symm
        refine lv_aload_n hx hb dX12_readTruth_53 rfl (lv_at hl 0 rfl) ?_
        refine va_get (D := (dC, dI)) (ci := 12) (v := .int (vi 76)) (C := RX12) (T := TX12) (N := 163) (fs := fM (vS a vi vj)) hx hb hts iwsRX12_readTruth_in12 hown hK hP 0 rfl rfl 76 (by decide) (hts _ hm_r_X12_readTruth_2) (fun _ h9 => h9) rfl dX12_readTruth_54 ?_
        refine lv_topi (fun y5 hy5 => ?_)
        obtain rfl : (nI cR) = y5 := (hy5.trans (hres)).symm
        refine lv_iconst (v := 0) hx hb dX12_readTruth_57 (by decide) ?_
        refine lv_iconst (v := 0) hx hb dX12_readTruth_58 (by decide) ?_
        have hFc := allFree hD hS hA
        refine va_calli (va_runV (As := [.int 11, .int (nI cO), .int (nI cR), .int 0, .int 0]) (rest := [.int (nI dN), .ref (a 42)]) ⟨hx, hb, hml, hown, hts⟩ (r_X12_node l dC dI a k h0 vi vj vF vG nd 11 (nI cO) (nI cR) 0 0 hnd (by first | with_reducible assumption | decide | omega | rfl | assumption) s.heap.size) (cwV 5 hts gwsRX12_readTruth_0 rfl rfl rfl hd_yX12_node_RX12 (by decide +kernel)) (fz_pre (va_recv hK hP (ci := 12) (q0 := 0) rfl rfl) hP hK hD) rfl rfl hl.1 rfl (lv_room (Nat.le_of_ble_eq_true rfl)) dX12_readTruth_59 (by decide +kernel)) hS (fun q _ h => hFc q h) hFc (fun r59 u t9_ H locs ht hvm hw9 hB9 hz1 hk1 hS => ?_)
        have hP : va_P (dC, dI) vwCl (WR a k h0 (fT vi 52 (nI (nd + 1))) vj (fT (fT (fT (fT (fT (fT (fT vF 29 (upd (vF 29) (nI nd).toNatClampNeg 11)) 30 (upd (vF 30) (nI nd).toNatClampNeg (nI cO))) 31 (upd (vF 31) (nI nd).toNatClampNeg (nI cR))) 32 (upd (vF 32) (nI nd).toNatClampNeg 0)) 33 (upd (vF 33) (nI nd).toNatClampNeg 0)) 34 (upd (vF 34) (nI nd).toNatClampNeg 0)) 35 (upd (vF 35) (nI nd).toNatClampNeg 0)) vG) H := fz_P ht hB9.1
        have hD := fz_sd hP (hB9.2.weaken (fun _ q _ h => hFc q.1 h)) rfl
        obtain rfl := hw9
        have hl : lv_has _ _ ([(0, .ref h0), (1, .int (nI dN))]) := lv_sub hl [0, 1] rfl
        exact join1 _ _ _ _ ⟨nd, (gG.add nd (gG.wt cO + gG.wt cR + 3) (51 - 2 * (cw + xe)) 0), (nd + 1), (upd (vF 29) (nI nd).toNatClampNeg 11), (upd (vF 30) (nI nd).toNatClampNeg (nI cO)), (upd (vF 31) (nI nd).toNatClampNeg (nI cR)), (upd (vF 32) (nI nd).toNatClampNeg 0), (upd (vF 33) (nI nd).toNatClampNeg 0), (upd (vF 34) (nI nd).toNatClampNeg 0), (upd (vF 35) (nI nd).toNatClampNeg 0), (hK0.mkJoin (cv := 0) (kv := 11) (by omega) (show (11 : Int32) = nI 11 by decide) (Or.inr rfl) rfl rfl hcL hcR (Nat.le_refl _) (Nat.le_refl _)).1, (hK0.mkJoin (cv := 0) (kv := 11) (by omega) (show (11 : Int32) = nI 11 by decide) (Or.inr rfl) rfl rfl hcL hcR (Nat.le_refl _) (Nat.le_refl _)).2, by show nd + 1 + pe + qa ≤ fn ∧ gG.vN + 1 + un ≤ nd + 1; omega, rfl, hP, hD, hS, hl⟩
      · have t_34 : (((vF 42) dN)).toInt = -1 := toI_nne c_34 rfl (by decide)
        refine lv_aload_n hx hb dX12_readTruth_37 rfl (lv_at hl 0 rfl) ?_
        refine va_get (D := (dC, dI)) (ci := 12) (v := .int (vi 76)) (C := RX12) (T := TX12) (N := 163) (fs := fM (vS a vi vj)) hx hb hts iwsRX12_readTruth_in12 hown hK hP 0 rfl rfl 76 (by decide) (hts _ hm_r_X12_readTruth_2) (fun _ h9 => h9) rfl dX12_readTruth_38 ?_
        refine lv_topi (fun y6 hy6 => ?_)
        obtain rfl : (nI cR) = y6 := (hy6.trans (hres)).symm
        refine lv_goto (tgt := 62) hx hb dX12_readTruth_41 (by decide) ?_
        have e9 : fT vi 52 (nI nd) = vi := by funext q9; by_cases h9_52 : q9 = 52; (subst h9_52; exact (fT_eq _ _ _).trans (Eq.trans (by first | with_reducible rfl | with_reducible assumption | (symm; with_reducible assumption) | rfl | assumption | (symm; assumption) | (subst_vars; rfl)) (Eq.refl _).symm)); exact (fT_ne _ _ h9_52).trans (Eq.refl _).symm
        have hP := wr_Pi e9 hP
        have hD := wr_Di e9 hD
        clear e9
        have e9 : fT (fT (fT (fT (fT (fT (fT vF 29 (vF 29)) 30 (vF 30)) 31 (vF 31)) 32 (vF 32)) 33 (vF 33)) 34 (vF 34)) 35 (vF 35) = vF := Eq.trans (mv_6 rfl) (Eq.trans (id_6 rfl) (Eq.trans (mv_5 rfl) (Eq.trans (id_5 rfl) (Eq.trans (mv_4 rfl) (Eq.trans (id_4 rfl) (Eq.trans (mv_3 rfl) (Eq.trans (id_3 rfl) (Eq.trans (mv_2 rfl) (Eq.trans (id_2 rfl) (Eq.trans (mv_1 rfl) (Eq.trans (id_1 rfl) (id_0 rfl))))))))))))
        have hP := wr_PF e9 hP
        have hD := wr_DF e9 hD
        clear e9
        have hl : lv_has _ _ ([(0, .ref h0), (1, .int (nI dN))]) := lv_sub hl [0, 1] rfl
        exact join1 _ _ _ _ ⟨cR, gG, nd, (vF 29), (vF 30), (vF 31), (vF 32), (vF 33), (vF 34), (vF 35), hK0, hcR, by (have hqb : qb = 0 := by (rcases hO2 with h9 | ⟨_, cO, h8, h9⟩); (exact h9.2); (exact absurd (h8.symm.trans c_34) (nIm1 (hRV.lt h9.1)))); omega, rfl, hP, hD, hS, hl⟩
    · rintro H locs ls stk ⟨c3, G3, nd3, a29, a30, a31, a32, a33, a34, a35, hK3, hL3, hn3, rfl, hP, hD, hS, hl⟩
      refine va_iast (cA := k 42) (n := 120) (f := (vF 42)) hx hb hK hP hD hS 43 42 (WR_get 42 (by decide)) (TR_get 42 (by decide)) (vp_in_nI (show dN < 120 by omega) (by omega)) dX12_readTruth_62 (fun H locs hP hD hS => ?_)
      have hP : va_P (dC, dI) vwCl (WR a k h0 (fT vi 52 (nI nd3)) vj (fT (fT (fT (fT (fT (fT (fT (fT vF 29 a29) 30 a30) 31 a31) 32 a32) 33 a33) 34 a34) 35 a35) 42 (upd (vF 42) ((nI dN)).toNatClampNeg (nI c3))) vG) H := fz_w (WR_F 42 (by decide) _ rfl) hP
      have hD : va_D A (WR a k h0 (fT vi 52 (nI nd3)) vj (fT (fT (fT (fT (fT (fT (fT (fT vF 29 a29) 30 a30) 31 a31) 32 a32) 33 a33) 34 a34) 35 a35) 42 (upd (vF 42) ((nI dN)).toNatClampNeg (nI c3))) vG) := fz_wD (WR_F 42 (by decide) _ rfl) hD
      refine lv_aload_n hx hb dX12_readTruth_63 rfl (lv_at hl 0 rfl) ?_
      refine lv_bipush (v := 9) hx hb dX12_readTruth_64 (by decide) ?_
      have hFc := allFree hD hS hA
      refine va_calli (va_runV (As := [.int 9]) (rest := []) ⟨hx, hb, hml, hown, hts⟩ (r_X12_isKey l dC dI a k h0 (fT vi 52 (nI nd3)) vj (fT (fT (fT (fT (fT (fT (fT (fT vF 29 a29) 30 a30) 31 a31) 32 a32) 33 a33) 34 a34) 35 a35) 42 (upd (vF 42) ((nI dN)).toNatClampNeg (nI c3))) vG 9 H.size) (cwV 1 hts gwsRX12_readTruth_1 rfl rfl rfl hd_yX12_isKey_RX12 (by decide +kernel)) (fz_pre (va_recv hK hP (ci := 12) (q0 := 0) rfl rfl) hP hK hD) rfl rfl hl.1 rfl (lv_room (Nat.le_of_ble_eq_true rfl)) dX12_readTruth_66 (by decide +kernel)) hS (fun q _ h => hFc q h) hFc (fun r66 u t9_ H locs ht hvm hw9 hB9 hz1 hk1 hS => ?_)
      have hP : va_P (dC, dI) vwCl (WR a k h0 (fT vi 52 (nI nd3)) vj (fT (fT (fT (fT (fT (fT (fT (fT vF 29 a29) 30 a30) 31 a31) 32 a32) 33 a33) 34 a34) 35 a35) 42 (upd (vF 42) ((nI dN)).toNatClampNeg (nI c3))) vG) H := fz_P ht hB9.1
      have hD := fz_sd hP (hB9.2.weaken (fun _ q _ h => hFc q.1 h)) rfl
      rcases hw9 with ⟨rfl, f66_0, f66_1⟩ | ⟨rfl, f66_0⟩
      · have f66_0 : (vi 18).toInt = 2 := f66_0
        have f66_1 : (vi 20) = 9 := f66_1
        refine lv_if_eq (tgt := 82) hx hb dX12_readTruth_69 (by decide) (fun c9 => absurd c9 (by decide)) (fun _ => ?_)
        have hfl : fn < an := hLx.2.2.1.resolve_left (fun h => by first | (rw [h] at f66_0; exact absurd f66_0 (by decide)))
        refine lv_aload_n hx hb dX12_readTruth_72 rfl (lv_at hl 0 rfl) ?_
        have hFc := allFree hD hS hA
        refine va_callv (va_runV (As := []) (rest := []) ⟨hx, hb, hml, hown, hts⟩ (r_X12_next l dC dI a k h0 (fT vi 52 (nI nd3)) vj (fT (fT (fT (fT (fT (fT (fT (fT vF 29 a29) 30 a30) 31 a31) 32 a32) 33 a33) 34 a34) 35 a35) 42 (upd (vF 42) ((nI dN)).toNatClampNeg (nI c3))) vG tp an hTp (by first | with_reducible assumption | decide | omega | rfl | assumption) ha0 (by first | with_reducible assumption | decide | omega | rfl | assumption) H.size) (cwV 0 hts gwsRX12_readTruth_2 rfl rfl rfl hd_yX12_next_RX12 (by decide +kernel)) (fz_preE (va_recv hK hP (ci := 12) (q0 := 0) rfl rfl) hP hK hD (fun a U g mk qE => qE.same rfl) (fun U hU9 hW => by rw [hU9]; exact (((hE : StrA A s s.heap).kept hS.2.1).narrow (fun q h => hFc q h)).warm hW)) rfl rfl hl.1 rfl (lv_room (Nat.le_of_ble_eq_true rfl)) dX12_readTruth_73 (by decide +kernel)) hS (fun q _ h => hFc q h) hFc (fun u t9_ H locs ht hvm hw9 hB9 hz1 hk1 hS => ?_)
        revert u hw9 hB9
        refine fz_p4 ?_
        intro a273 f273 sg73 wd73 hw9 hB9
        try dsimp only at hw9 hB9
        have hP : va_P (dC, dI) vwCl (WR a k h0 (fT (fT (fT (fT (fT vi 52 (nI nd3)) 17 (nI a273)) 19 (nI f273)) 20 sg73) 18 wd73) vj (fT (fT (fT (fT (fT (fT (fT (fT vF 29 a29) 30 a30) 31 a31) 32 a32) 33 a33) 34 a34) 35 a35) 42 (upd (vF 42) ((nI dN)).toNatClampNeg (nI c3))) vG) H := fz_P ht hB9.1
        have hD := fz_sd hP (hB9.2.weaken (fun _ q _ h => hFc q.1 h)) rfl
        revert hw9
        refine fz_a2 ?_
        intro f73_0 f73_1
        have hl1 := f73_0.1
        have hl2 := f73_0.2.1
        refine lv_aload_n hx hb dX12_readTruth_76 rfl (lv_at hl 0 rfl) ?_
        refine lv_iconst (v := 3) hx hb dX12_readTruth_77 (by decide) ?_
        have hFc := allFree hD hS hA
        refine va_callv (va_runV (As := [.int 3]) (rest := []) ⟨hx, hb, hml, hown, hts⟩ (r_X12_begin1 l dC dI a k h0 (fT (fT (fT (fT (fT vi 52 (nI nd3)) 17 (nI a273)) 19 (nI f273)) 20 sg73) 18 wd73) vj (fT (fT (fT (fT (fT (fT (fT (fT vF 29 a29) 30 a30) 31 a31) 32 a32) 33 a33) 34 a34) 35 a35) 42 (upd (vF 42) ((nI dN)).toNatClampNeg (nI c3))) vG 3 tp a273 f273 nm se pa va bd (dN + 1) wi hTp (by first | with_reducible assumption | decide | omega | rfl | assumption) rfl rfl (f73_0) (by first | with_reducible assumption | decide | omega | rfl | assumption) hnm (by first | with_reducible assumption | decide | omega | rfl | assumption) (by first | with_reducible assumption | decide | omega | rfl | assumption) (by first | with_reducible assumption | decide | omega | rfl | assumption) hbd (by first | with_reducible assumption | decide | omega | rfl | assumption) (by first | with_reducible assumption | decide | omega | rfl | assumption) (hdp) (by first | with_reducible assumption | decide | omega | rfl | assumption) hwi (by first | with_reducible assumption | decide | omega | rfl | assumption) H.size) (cwV 1 hts gwsRX12_readTruth_3 rfl rfl rfl hd_yX12_begin1_RX12 (by decide +kernel)) (fz_pre (va_recv hK hP (ci := 12) (q0 := 0) rfl rfl) hP hK hD) rfl rfl hl.1 rfl (lv_room (Nat.le_of_ble_eq_true rfl)) dX12_readTruth_78 (by decide +kernel)) hS (fun q _ h => hFc q h) hFc (fun u t9_ H locs ht hvm hw9 hB9 hz1 hk1 hS => ?_)
        revert u hw9 hB9
        refine fz_p10 ?_
        intro s278 p278 g3978 g4078 g4178 g4278 g4778 g4878 d278 w278 hw9 hB9
        try dsimp only at hw9 hB9
        have e9F : fT (fT (fT (fT (fT (fT (fT (fT (fT (fT (fT (fT (fT vF 29 a29) 30 a30) 31 a31) 32 a32) 33 a33) 34 a34) 35 a35) 42 g4278) 39 g3978) 40 g4078) 41 g4178) 47 g4778) 48 g4878 = fT (fT (fT (fT (fT (fT (fT (fT (fT (fT (fT (fT (fT (fT vF 29 a29) 30 a30) 31 a31) 32 a32) 33 a33) 34 a34) 35 a35) 42 (upd (vF 42) ((nI dN)).toNatClampNeg (nI c3))) 39 g3978) 40 g4078) 41 g4178) 42 g4278) 47 g4778) 48 g4878 := (congrArg (fun g9 => fT (fT g9 47 g4778) 48 g4878) ((fT_sw _ _ _ (Nat.ne_of_beq_eq_false rfl)).trans (congrArg (fun g9 => fT g9 41 g4178) ((fT_sw _ _ _ (Nat.ne_of_beq_eq_false rfl)).trans (congrArg (fun g9 => fT g9 40 g4078) ((fT_sw _ _ _ (Nat.ne_of_beq_eq_false rfl)).trans (congrArg (fun g9 => fT g9 39 g3978) (fT_sm _ _ _ _)))))))).symm
        have hP := wr_PF e9F (fz_P ht hB9.1)
        have hD := wr_DF e9F (hB9.2.weaken (fun _ q _ h => hFc q.1 h))
        clear e9F
        revert hw9
        refine fz_a4 ?_
        intro f78_0 f78_1 f78_2 f78_3
        have f78_1 : 0 < (s278).toInt ∨ (s278 = (vi 21) ∧ BgO 3 wd73 sg73 g3978 g4078 g4178 g4278 g4878 (dN + 1) wi d278 w278) := f78_1
        have f78_2 : FrmO (dN + 1) (vF 39) (vF 40) (vF 41) (upd (vF 42) ((nI dN)).toNatClampNeg (nI c3)) (vF 48) g3978 g4078 g4178 g4278 g4878 := f78_2
        refine W.widen (k := 0) (n := 0) (by decide +kernel) (by decide +kernel) ?_
        have e9 : fT (fT (fT (fT (fT (fT (fT (fT (fT (fT (fT vi 52 (nI nd3)) 17 (nI a273)) 19 (nI f273)) 20 sg73) 18 wd73) 75 (nI w278)) 74 (nI d278)) 21 s278) 22 p278) 76 (vi 76)) 77 (vi 77) = fT (fT (fT (fT (fT (fT (fT (fT (fT vi 52 (nI nd3)) 17 (nI a273)) 19 (nI f273)) 20 sg73) 18 wd73) 75 (nI w278)) 74 (nI d278)) 21 s278) 22 p278 := Eq.trans (mv_1 rfl) (Eq.trans (id_10 rfl) (id_9 rfl))
        have hP := wr_Pi e9 hP
        have hD := wr_Di e9 hD
        clear e9
        exact W.vret hx hb hr (fun t9_ ht hW => ⟨⟨(a273, f273, sg73, wd73, s278, p278, a29, a30, a31, a32, a33, a34, a35, g3978, g4078, g4178, g4278, g4778, g4878, d278, w278, nd3, (vi 76), (vi 77), G3), rfl, by (try dsimp only); exact ⟨f73_0, by omega, f78_0, by rcases f78_1 with h9 | h9; (exact Or.inl h9); (exact Or.inr ⟨RdS.push (gm := gl) hK3.1 hBel hK3.2.1 (Nat.le_refl _) (fun q hq => ⟨rfl, rfl, rfl, by rw [upd_at (by omega), if_neg (by omega)], rfl⟩) h39 (by decide) h48 (by omega) ⟨⟨by omega, fun _ => by omega, fun _ => by omega, Nat.le_refl _⟩, Or.inr (Or.inr (Or.inr (Or.inr (Or.inr (Or.inr (Or.inr (Or.inl ⟨rfl, rfl, hq0, rfl, rfl, qa, 1, hK3.2.1.opT hO1, Or.inr ⟨rfl, c3, by rw [upd_at (by omega), if_pos rfl], hL3⟩, rfl⟩)))))))⟩ f78_2 (by rw [← hwc]; exact h9.2) (show (3 : Int32) = nI 3 by decide) (by decide) (by omega) (by omega) (by omega) (by omega) hK3.2.2.2 (by show 10 * (4000 - _) + dN + 1 + 5 ≤ mM - 1; omega), hK3.2.1.less (Nat.zero_le _)⟩), by omega⟩, by rw [ht]; exact hP, hD⟩, hS.F ht⟩) hS.2.2 dX12_readTruth_81
      · have f66_0 : ¬ ((vi 18).toInt = 2 ∧ (vi 20) = 9) := f66_0
        refine lv_if_eq (tgt := 82) hx hb dX12_readTruth_69 (by decide) (fun _ => ?_) (fun c9 => absurd (by decide) c9)
        refine lv_aload_n hx hb dX12_readTruth_82 rfl (lv_at hl 0 rfl) ?_
        refine va_get (D := (dC, dI)) (ci := 12) (v := .ref (a 41)) (C := RX12) (T := TX12) (N := 163) (fs := fM (vS a (fT vi 52 (nI nd3)) vj)) hx hb hts iwsRX12_readTruth_in12 hown hK hP 0 rfl rfl 66 (by decide) (hts _ hm_r_X12_readTruth_3) (fun _ h9 => h9) rfl dX12_readTruth_83 ?_
        refine lv_iload_n hx hb dX12_readTruth_86 rfl (lv_at hl 1 rfl) ?_
        refine lv_aload_n hx hb dX12_readTruth_87 rfl (lv_at hl 0 rfl) ?_
        refine va_get (D := (dC, dI)) (ci := 12) (v := .ref (a 41)) (C := RX12) (T := TX12) (N := 163) (fs := fM (vS a (fT vi 52 (nI nd3)) vj)) hx hb hts iwsRX12_readTruth_in12 hown hK hP 0 rfl rfl 66 (by decide) (hts _ hm_r_X12_readTruth_3) (fun _ h9 => h9) rfl dX12_readTruth_88 ?_
        refine lv_iload_n hx hb dX12_readTruth_91 rfl (lv_at hl 1 rfl) ?_
        refine va_iald (cA := k 41) (n := 120) (f := (vF 41)) hx hb hK hP 42 41 (WR_get 41 (by decide)) (TR_get 41 (by decide)) (vp_in_nI (show dN < 120 by omega) (by omega)) dX12_readTruth_92 ?_
        refine lv_topi (fun y7 hy7 => ?_)
        obtain rfl : ((vF 41) dN) = y7 := (hy7.trans (by rw [nI_clamp (by omega)])).symm
        refine lv_iconst (v := (-1)) hx hb dX12_readTruth_93 (by decide) ?_
        refine W.cut (pc := 126) (fun H locs ls stk => ∃ (c1 : Nat) (G4 : RG) (nd4 : Nat) (b29 : Nat → Int32) (b30 : Nat → Int32) (b31 : Nat → Int32) (b32 : Nat → Int32) (b33 : Nat → Int32) (b34 : Nat → Int32) (b35 : Nat → Int32), (RdK tT gG (vF 29) (vF 30) (vF 31) (vF 32) (vF 36) (vF 37) (vF 38) G4 b29 b30 b31 b32 (vF 36) (vF 37) (vF 38) se nd4 bs gl) ∧ (TruO G4 b29 c1 (51 - 2 * (cw + xe))) ∧ (nd4 + pe ≤ fn ∧ G4.vN + un ≤ nd4) ∧  stk = [.int (nI c1), .int (nI dN), .ref (a 41)] ∧ va_P (dC, dI) vwCl (WR a k h0 (fT vi 52 (nI nd4)) vj (fT (fT (fT (fT (fT (fT (fT (fT vF 29 b29) 30 b30) 31 b31) 32 b32) 33 b33) 34 b34) 35 b35) 42 (upd (vF 42) ((nI dN)).toNatClampNeg (nI c3))) vG) H ∧ va_D A (WR a k h0 (fT vi 52 (nI nd4)) vj (fT (fT (fT (fT (fT (fT (fT (fT vF 29 b29) 30 b30) 31 b31) 32 b32) 33 b33) 34 b34) 35 b35) 42 (upd (vF 42) ((nI dN)).toNatClampNeg (nI c3))) vG) ∧ va_S A s.heap H locs ∧ lv_has ls 2 [(0, .ref h0), (1, .int (nI dN))]) (fun join2 => ?_) ?_
        · refine lv_icmp_ne (tgt := 106) hx hb dX12_readTruth_94 (by decide) (fun c_94 => ?_) (fun c_94 => ?_)
          · have t_94 : (((vF 41) dN)).toInt ≠ -1 := toI_ne c_94 rfl (by decide)
            obtain ⟨ha1, cP, hcP, hcPL⟩ := hO1.resolve_left (fun h => c_94 h.1)
            refine lv_aload_n hx hb dX12_readTruth_106 rfl (lv_at hl 0 rfl) ?_
            refine lv_bipush (v := 10) hx hb dX12_readTruth_107 (by decide) ?_
            refine lv_aload_n hx hb dX12_readTruth_109 rfl (lv_at hl 0 rfl) ?_
            refine va_get (D := (dC, dI)) (ci := 12) (v := .ref (a 41)) (C := RX12) (T := TX12) (N := 163) (fs := fM (vS a (fT vi 52 (nI nd3)) vj)) hx hb hts iwsRX12_readTruth_in12 hown hK hP 0 rfl rfl 66 (by decide) (hts _ hm_r_X12_readTruth_3) (fun _ h9 => h9) rfl dX12_readTruth_110 ?_
            refine lv_iload_n hx hb dX12_readTruth_113 rfl (lv_at hl 1 rfl) ?_
            refine va_iald (cA := k 41) (n := 120) (f := (vF 41)) hx hb hK hP 42 41 (WR_get 41 (by decide)) (TR_get 41 (by decide)) (vp_in_nI (show dN < 120 by omega) (by omega)) dX12_readTruth_114 ?_
            refine lv_topi (fun y8 hy8 => ?_)
            obtain rfl : ((vF 41) dN) = y8 := (hy8.trans (by rw [nI_clamp (by omega)])).symm
            refine lv_topi (fun y9 hy9 => ?_)
            obtain rfl : (nI cP) = y9 := (hy9.trans (hcP)).symm
            refine lv_aload_n hx hb dX12_readTruth_115 rfl (lv_at hl 0 rfl) ?_
            refine va_get (D := (dC, dI)) (ci := 12) (v := .ref (a 42)) (C := RX12) (T := TX12) (N := 163) (fs := fM (vS a (fT vi 52 (nI nd3)) vj)) hx hb hts iwsRX12_readTruth_in12 hown hK hP 0 rfl rfl 67 (by decide) (hts _ hm_r_X12_readTruth_1) (fun _ h9 => h9) rfl dX12_readTruth_116 ?_
            refine lv_iload_n hx hb dX12_readTruth_119 rfl (lv_at hl 1 rfl) ?_
            refine va_iald (cA := k 42) (n := 120) (f := (upd (vF 42) ((nI dN)).toNatClampNeg (nI c3))) hx hb hK hP 43 42 (WR_get 42 (by decide)) (TR_get 42 (by decide)) (vp_in_nI (show dN < 120 by omega) (by omega)) dX12_readTruth_120 ?_
            refine lv_topi (fun y10 hy10 => ?_)
            obtain rfl : ((upd (vF 42) ((nI dN)).toNatClampNeg (nI c3)) dN) = y10 := (hy10.trans (by rw [nI_clamp (by omega)])).symm
            refine lv_topi (fun y11 hy11 => ?_)
            obtain rfl : (nI c3) = y11 := (hy11.trans (by rw [upd_at (by omega), if_pos rfl])).symm
            refine lv_iconst (v := 0) hx hb dX12_readTruth_121 (by decide) ?_
            refine lv_iconst (v := 0) hx hb dX12_readTruth_122 (by decide) ?_
            have hFc := allFree hD hS hA
            refine va_calli (va_runV (As := [.int 10, .int (nI cP), .int (nI c3), .int 0, .int 0]) (rest := [.int (nI dN), .ref (a 41)]) ⟨hx, hb, hml, hown, hts⟩ (r_X12_node l dC dI a k h0 (fT vi 52 (nI nd3)) vj (fT (fT (fT (fT (fT (fT (fT (fT vF 29 a29) 30 a30) 31 a31) 32 a32) 33 a33) 34 a34) 35 a35) 42 (upd (vF 42) ((nI dN)).toNatClampNeg (nI c3))) vG nd3 10 (nI cP) (nI c3) 0 0 rfl (by first | with_reducible assumption | decide | omega | rfl | assumption) H.size) (cwV 5 hts gwsRX12_readTruth_0 rfl rfl rfl hd_yX12_node_RX12 (by decide +kernel)) (fz_pre (va_recv hK hP (ci := 12) (q0 := 0) rfl rfl) hP hK hD) rfl rfl hl.1 rfl (lv_room (Nat.le_of_ble_eq_true rfl)) dX12_readTruth_123 (by decide +kernel)) hS (fun q _ h => hFc q h) hFc (fun r123 u t9_ H locs ht hvm hw9 hB9 hz1 hk1 hS => ?_)
            have e9i : fT vi 52 (nI (nd3 + 1)) = fT (fT vi 52 (nI nd3)) 52 (nI (nd3 + 1)) := (fT_sm _ _ _ _).symm
            have e9F : fT (fT (fT (fT (fT (fT (fT (fT vF 29 (upd a29 (nI nd3).toNatClampNeg 10)) 30 (upd a30 (nI nd3).toNatClampNeg (nI cP))) 31 (upd a31 (nI nd3).toNatClampNeg (nI c3))) 32 (upd a32 (nI nd3).toNatClampNeg 0)) 33 (upd a33 (nI nd3).toNatClampNeg 0)) 34 (upd a34 (nI nd3).toNatClampNeg 0)) 35 (upd a35 (nI nd3).toNatClampNeg 0)) 42 (upd (vF 42) ((nI dN)).toNatClampNeg (nI c3)) = fT (fT (fT (fT (fT (fT (fT (fT (fT (fT (fT (fT (fT (fT (fT vF 29 a29) 30 a30) 31 a31) 32 a32) 33 a33) 34 a34) 35 a35) 42 (upd (vF 42) ((nI dN)).toNatClampNeg (nI c3))) 29 (upd a29 (nI nd3).toNatClampNeg 10)) 30 (upd a30 (nI nd3).toNatClampNeg (nI cP))) 31 (upd a31 (nI nd3).toNatClampNeg (nI c3))) 32 (upd a32 (nI nd3).toNatClampNeg 0)) 33 (upd a33 (nI nd3).toNatClampNeg 0)) 34 (upd a34 (nI nd3).toNatClampNeg 0)) 35 (upd a35 (nI nd3).toNatClampNeg 0) := Eq.symm (Eq.trans (congrArg (fun g9 => fT g9 35 (upd a35 (nI nd3).toNatClampNeg 0)) (Eq.trans (congrArg (fun g9 => fT g9 34 (upd a34 (nI nd3).toNatClampNeg 0)) (Eq.trans (congrArg (fun g9 => fT g9 33 (upd a33 (nI nd3).toNatClampNeg 0)) (Eq.trans (congrArg (fun g9 => fT g9 32 (upd a32 (nI nd3).toNatClampNeg 0)) (Eq.trans (congrArg (fun g9 => fT g9 31 (upd a31 (nI nd3).toNatClampNeg (nI c3))) (Eq.trans (congrArg (fun g9 => fT g9 30 (upd a30 (nI nd3).toNatClampNeg (nI cP))) (up_7 rfl)) (up_6 rfl))) (up_5 rfl))) (up_4 rfl))) (up_3 rfl))) (up_2 rfl))) (up_1 rfl))
            have hP := wr_PF e9F (wr_Pi e9i (fz_P ht hB9.1))
            have hD := wr_DF e9F (wr_Di e9i (hB9.2.weaken (fun _ q _ h => hFc q.1 h)))
            clear e9i e9F
            obtain rfl := hw9
            have hl : lv_has _ _ ([(0, .ref h0), (1, .int (nI dN))]) := lv_sub hl [0, 1] rfl
            exact join2 _ _ _ _ ⟨nd3, (G3.add nd3 (G3.wt cP + G3.wt c3 + 3) (51 - 2 * (cw + xe)) 0), (nd3 + 1), (upd a29 (nI nd3).toNatClampNeg 10), (upd a30 (nI nd3).toNatClampNeg (nI cP)), (upd a31 (nI nd3).toNatClampNeg (nI c3)), (upd a32 (nI nd3).toNatClampNeg 0), (upd a33 (nI nd3).toNatClampNeg 0), (upd a34 (nI nd3).toNatClampNeg 0), (upd a35 (nI nd3).toNatClampNeg 0), (hK3.mkJoin (cv := 0) (kv := 10) (by omega) (show (10 : Int32) = nI 10 by decide) (Or.inl rfl) rfl rfl (hK3.2.1.tru hcPL) hL3 (Nat.le_refl _) (Nat.le_refl _)).1, (hK3.mkJoin (cv := 0) (kv := 10) (by omega) (show (10 : Int32) = nI 10 by decide) (Or.inl rfl) rfl rfl (hK3.2.1.tru hcPL) hL3 (Nat.le_refl _) (Nat.le_refl _)).2, by show nd3 + 1 + pe ≤ fn ∧ G3.vN + 1 + un ≤ nd3 + 1; omega, rfl, hP, hD, hS, hl⟩
          · have t_94 : (((vF 41) dN)).toInt = -1 := toI_nne c_94 rfl (by decide)
            refine lv_aload_n hx hb dX12_readTruth_97 rfl (lv_at hl 0 rfl) ?_
            refine va_get (D := (dC, dI)) (ci := 12) (v := .ref (a 42)) (C := RX12) (T := TX12) (N := 163) (fs := fM (vS a (fT vi 52 (nI nd3)) vj)) hx hb hts iwsRX12_readTruth_in12 hown hK hP 0 rfl rfl 67 (by decide) (hts _ hm_r_X12_readTruth_1) (fun _ h9 => h9) rfl dX12_readTruth_98 ?_
            refine lv_iload_n hx hb dX12_readTruth_101 rfl (lv_at hl 1 rfl) ?_
            refine va_iald (cA := k 42) (n := 120) (f := (upd (vF 42) ((nI dN)).toNatClampNeg (nI c3))) hx hb hK hP 43 42 (WR_get 42 (by decide)) (TR_get 42 (by decide)) (vp_in_nI (show dN < 120 by omega) (by omega)) dX12_readTruth_102 ?_
            refine lv_topi (fun y12 hy12 => ?_)
            obtain rfl : ((upd (vF 42) ((nI dN)).toNatClampNeg (nI c3)) dN) = y12 := (hy12.trans (by rw [nI_clamp (by omega)])).symm
            refine lv_topi (fun y13 hy13 => ?_)
            obtain rfl : (nI c3) = y13 := (hy13.trans (by rw [upd_at (by omega), if_pos rfl])).symm
            refine lv_goto (tgt := 126) hx hb dX12_readTruth_103 (by decide) ?_
            have hl : lv_has _ _ ([(0, .ref h0), (1, .int (nI dN))]) := lv_sub hl [0, 1] rfl
            exact join2 _ _ _ _ ⟨c3, G3, nd3, a29, a30, a31, a32, a33, a34, a35, hK3, hL3, by omega, rfl, hP, hD, hS, hl⟩
        · rintro H locs ls stk ⟨c1, G4, nd4, b29, b30, b31, b32, b33, b34, b35, hK4, hL4, hn4, rfl, hP, hD, hS, hl⟩
          refine va_iast (cA := k 41) (n := 120) (f := (vF 41)) hx hb hK hP hD hS 42 41 (WR_get 41 (by decide)) (TR_get 41 (by decide)) (vp_in_nI (show dN < 120 by omega) (by omega)) dX12_readTruth_126 (fun H locs hP hD hS => ?_)
          have hP : va_P (dC, dI) vwCl (WR a k h0 (fT vi 52 (nI nd4)) vj (fT (fT (fT (fT (fT (fT (fT (fT (fT vF 29 b29) 30 b30) 31 b31) 32 b32) 33 b33) 34 b34) 35 b35) 42 (upd (vF 42) ((nI dN)).toNatClampNeg (nI c3))) 41 (upd (vF 41) ((nI dN)).toNatClampNeg (nI c1))) vG) H := fz_w (WR_F 41 (by decide) _ rfl) hP
          have hD : va_D A (WR a k h0 (fT vi 52 (nI nd4)) vj (fT (fT (fT (fT (fT (fT (fT (fT (fT vF 29 b29) 30 b30) 31 b31) 32 b32) 33 b33) 34 b34) 35 b35) 42 (upd (vF 42) ((nI dN)).toNatClampNeg (nI c3))) 41 (upd (vF 41) ((nI dN)).toNatClampNeg (nI c1))) vG) := fz_wD (WR_F 41 (by decide) _ rfl) hD
          refine lv_aload_n hx hb dX12_readTruth_127 rfl (lv_at hl 0 rfl) ?_
          refine va_get (D := (dC, dI)) (ci := 12) (v := .ref (a 42)) (C := RX12) (T := TX12) (N := 163) (fs := fM (vS a (fT vi 52 (nI nd4)) vj)) hx hb hts iwsRX12_readTruth_in12 hown hK hP 0 rfl rfl 67 (by decide) (hts _ hm_r_X12_readTruth_1) (fun _ h9 => h9) rfl dX12_readTruth_128 ?_
          refine lv_iload_n hx hb dX12_readTruth_131 rfl (lv_at hl 1 rfl) ?_
          refine lv_iconst (v := (-1)) hx hb dX12_readTruth_132 (by decide) ?_
          refine va_iast (cA := k 42) (n := 120) (f := (upd (vF 42) ((nI dN)).toNatClampNeg (nI c3))) hx hb hK hP hD hS 43 42 (WR_get 42 (by decide)) (TR_get 42 (by decide)) (vp_in_nI (show dN < 120 by omega) (by omega)) dX12_readTruth_133 (fun H locs hP hD hS => ?_)
          have e9 : fT (fT (fT (fT (fT (fT (fT (fT (fT vF 29 b29) 30 b30) 31 b31) 32 b32) 33 b33) 34 b34) 35 b35) 42 (upd (upd (vF 42) ((nI dN)).toNatClampNeg (nI c3)) ((nI dN)).toNatClampNeg (-1))) 41 (upd (vF 41) ((nI dN)).toNatClampNeg (nI c1)) = fT (fT (fT (fT (fT (fT (fT (fT (fT (fT vF 29 b29) 30 b30) 31 b31) 32 b32) 33 b33) 34 b34) 35 b35) 42 (upd (vF 42) ((nI dN)).toNatClampNeg (nI c3))) 41 (upd (vF 41) ((nI dN)).toNatClampNeg (nI c1))) 42 (upd (upd (vF 42) ((nI dN)).toNatClampNeg (nI c3)) ((nI dN)).toNatClampNeg (-1)) := ((fT_sw _ _ _ (Nat.ne_of_beq_eq_false rfl)).trans (congrArg (fun g9 => fT g9 41 (upd (vF 41) ((nI dN)).toNatClampNeg (nI c1))) (fT_sm _ _ _ _))).symm
          have hP := wr_PF e9 (fz_w (WR_F 42 (by decide) _ rfl) hP)
          have hD := wr_DF e9 (fz_wD (WR_F 42 (by decide) _ rfl) hD)
          clear e9
          refine lv_aload_n hx hb dX12_readTruth_134 rfl (lv_at hl 0 rfl) ?_
          refine lv_bipush (v := 7) hx hb dX12_readTruth_135 (by decide) ?_
          have hFc := allFree hD hS hA
          refine va_calli (va_runV (As := [.int 7]) (rest := []) ⟨hx, hb, hml, hown, hts⟩ (r_X12_isKey l dC dI a k h0 (fT vi 52 (nI nd4)) vj (fT (fT (fT (fT (fT (fT (fT (fT (fT vF 29 b29) 30 b30) 31 b31) 32 b32) 33 b33) 34 b34) 35 b35) 42 (upd (upd (vF 42) ((nI dN)).toNatClampNeg (nI c3)) ((nI dN)).toNatClampNeg (-1))) 41 (upd (vF 41) ((nI dN)).toNatClampNeg (nI c1))) vG 7 H.size) (cwV 1 hts gwsRX12_readTruth_1 rfl rfl rfl hd_yX12_isKey_RX12 (by decide +kernel)) (fz_pre (va_recv hK hP (ci := 12) (q0 := 0) rfl rfl) hP hK hD) rfl rfl hl.1 rfl (lv_room (Nat.le_of_ble_eq_true rfl)) dX12_readTruth_137 (by decide +kernel)) hS (fun q _ h => hFc q h) hFc (fun r137 u t9_ H locs ht hvm hw9 hB9 hz1 hk1 hS => ?_)
          have hP : va_P (dC, dI) vwCl (WR a k h0 (fT vi 52 (nI nd4)) vj (fT (fT (fT (fT (fT (fT (fT (fT (fT vF 29 b29) 30 b30) 31 b31) 32 b32) 33 b33) 34 b34) 35 b35) 42 (upd (upd (vF 42) ((nI dN)).toNatClampNeg (nI c3)) ((nI dN)).toNatClampNeg (-1))) 41 (upd (vF 41) ((nI dN)).toNatClampNeg (nI c1))) vG) H := fz_P ht hB9.1
          have hD := fz_sd hP (hB9.2.weaken (fun _ q _ h => hFc q.1 h)) rfl
          rcases hw9 with ⟨rfl, f137_0, f137_1⟩ | ⟨rfl, f137_0⟩
          · have f137_0 : (vi 18).toInt = 2 := f137_0
            have f137_1 : (vi 20) = 7 := f137_1
            refine lv_if_eq (tgt := 153) hx hb dX12_readTruth_140 (by decide) (fun c9 => absurd c9 (by decide)) (fun _ => ?_)
            have hfl : fn < an := hLx.2.2.1.resolve_left (fun h => by first | (rw [h] at f137_0; exact absurd f137_0 (by decide)))
            refine lv_aload_n hx hb dX12_readTruth_143 rfl (lv_at hl 0 rfl) ?_
            have hFc := allFree hD hS hA
            refine va_callv (va_runV (As := []) (rest := []) ⟨hx, hb, hml, hown, hts⟩ (r_X12_next l dC dI a k h0 (fT vi 52 (nI nd4)) vj (fT (fT (fT (fT (fT (fT (fT (fT (fT vF 29 b29) 30 b30) 31 b31) 32 b32) 33 b33) 34 b34) 35 b35) 42 (upd (upd (vF 42) ((nI dN)).toNatClampNeg (nI c3)) ((nI dN)).toNatClampNeg (-1))) 41 (upd (vF 41) ((nI dN)).toNatClampNeg (nI c1))) vG tp an hTp (by first | with_reducible assumption | decide | omega | rfl | assumption) ha0 (by first | with_reducible assumption | decide | omega | rfl | assumption) H.size) (cwV 0 hts gwsRX12_readTruth_2 rfl rfl rfl hd_yX12_next_RX12 (by decide +kernel)) (fz_preE (va_recv hK hP (ci := 12) (q0 := 0) rfl rfl) hP hK hD (fun a U g mk qE => qE.same rfl) (fun U hU9 hW => by rw [hU9]; exact (((hE : StrA A s s.heap).kept hS.2.1).narrow (fun q h => hFc q h)).warm hW)) rfl rfl hl.1 rfl (lv_room (Nat.le_of_ble_eq_true rfl)) dX12_readTruth_144 (by decide +kernel)) hS (fun q _ h => hFc q h) hFc (fun u t9_ H locs ht hvm hw9 hB9 hz1 hk1 hS => ?_)
            revert u hw9 hB9
            refine fz_p4 ?_
            intro a2144 f2144 sg144 wd144 hw9 hB9
            try dsimp only at hw9 hB9
            have hP : va_P (dC, dI) vwCl (WR a k h0 (fT (fT (fT (fT (fT vi 52 (nI nd4)) 17 (nI a2144)) 19 (nI f2144)) 20 sg144) 18 wd144) vj (fT (fT (fT (fT (fT (fT (fT (fT (fT vF 29 b29) 30 b30) 31 b31) 32 b32) 33 b33) 34 b34) 35 b35) 42 (upd (upd (vF 42) ((nI dN)).toNatClampNeg (nI c3)) ((nI dN)).toNatClampNeg (-1))) 41 (upd (vF 41) ((nI dN)).toNatClampNeg (nI c1))) vG) H := fz_P ht hB9.1
            have hD := fz_sd hP (hB9.2.weaken (fun _ q _ h => hFc q.1 h)) rfl
            revert hw9
            refine fz_a2 ?_
            intro f144_0 f144_1
            have hl1 := f144_0.1
            have hl2 := f144_0.2.1
            refine lv_aload_n hx hb dX12_readTruth_147 rfl (lv_at hl 0 rfl) ?_
            refine lv_iconst (v := 3) hx hb dX12_readTruth_148 (by decide) ?_
            have hFc := allFree hD hS hA
            refine va_callv (va_runV (As := [.int 3]) (rest := []) ⟨hx, hb, hml, hown, hts⟩ (r_X12_begin1 l dC dI a k h0 (fT (fT (fT (fT (fT vi 52 (nI nd4)) 17 (nI a2144)) 19 (nI f2144)) 20 sg144) 18 wd144) vj (fT (fT (fT (fT (fT (fT (fT (fT (fT vF 29 b29) 30 b30) 31 b31) 32 b32) 33 b33) 34 b34) 35 b35) 42 (upd (upd (vF 42) ((nI dN)).toNatClampNeg (nI c3)) ((nI dN)).toNatClampNeg (-1))) 41 (upd (vF 41) ((nI dN)).toNatClampNeg (nI c1))) vG 3 tp a2144 f2144 nm se pa va bd (dN + 1) wi hTp (by first | with_reducible assumption | decide | omega | rfl | assumption) rfl rfl (f144_0) (by first | with_reducible assumption | decide | omega | rfl | assumption) hnm (by first | with_reducible assumption | decide | omega | rfl | assumption) (by first | with_reducible assumption | decide | omega | rfl | assumption) (by first | with_reducible assumption | decide | omega | rfl | assumption) hbd (by first | with_reducible assumption | decide | omega | rfl | assumption) (by first | with_reducible assumption | decide | omega | rfl | assumption) (hdp) (by first | with_reducible assumption | decide | omega | rfl | assumption) hwi (by first | with_reducible assumption | decide | omega | rfl | assumption) H.size) (cwV 1 hts gwsRX12_readTruth_3 rfl rfl rfl hd_yX12_begin1_RX12 (by decide +kernel)) (fz_pre (va_recv hK hP (ci := 12) (q0 := 0) rfl rfl) hP hK hD) rfl rfl hl.1 rfl (lv_room (Nat.le_of_ble_eq_true rfl)) dX12_readTruth_149 (by decide +kernel)) hS (fun q _ h => hFc q h) hFc (fun u t9_ H locs ht hvm hw9 hB9 hz1 hk1 hS => ?_)
            revert u hw9 hB9
            refine fz_p10 ?_
            intro s2149 p2149 g39149 g40149 g41149 g42149 g47149 g48149 d2149 w2149 hw9 hB9
            try dsimp only at hw9 hB9
            have e9F : fT (fT (fT (fT (fT (fT (fT (fT (fT (fT (fT (fT (fT vF 29 b29) 30 b30) 31 b31) 32 b32) 33 b33) 34 b34) 35 b35) 42 g42149) 41 g41149) 39 g39149) 40 g40149) 47 g47149) 48 g48149 = fT (fT (fT (fT (fT (fT (fT (fT (fT (fT (fT (fT (fT (fT (fT vF 29 b29) 30 b30) 31 b31) 32 b32) 33 b33) 34 b34) 35 b35) 42 (upd (upd (vF 42) ((nI dN)).toNatClampNeg (nI c3)) ((nI dN)).toNatClampNeg (-1))) 41 (upd (vF 41) ((nI dN)).toNatClampNeg (nI c1))) 39 g39149) 40 g40149) 41 g41149) 42 g42149) 47 g47149) 48 g48149 := Eq.symm (congrArg (fun g9 => fT (fT g9 47 g47149) 48 g48149) (Eq.trans (congrArg (fun g9 => fT g9 42 g42149) (up_2 rfl)) (up_3 rfl)))
            have hP := wr_PF e9F (fz_P ht hB9.1)
            have hD := wr_DF e9F (hB9.2.weaken (fun _ q _ h => hFc q.1 h))
            clear e9F
            revert hw9
            refine fz_a4 ?_
            intro f149_0 f149_1 f149_2 f149_3
            have f149_1 : 0 < (s2149).toInt ∨ (s2149 = (vi 21) ∧ BgO 3 wd144 sg144 g39149 g40149 g41149 g42149 g48149 (dN + 1) wi d2149 w2149) := f149_1
            have f149_2 : FrmO (dN + 1) (vF 39) (vF 40) (upd (vF 41) ((nI dN)).toNatClampNeg (nI c1)) (upd (upd (vF 42) ((nI dN)).toNatClampNeg (nI c3)) ((nI dN)).toNatClampNeg (-1)) (vF 48) g39149 g40149 g41149 g42149 g48149 := f149_2
            refine W.widen (k := 0) (n := 0) (by decide +kernel) (by decide +kernel) ?_
            have e9 : fT (fT (fT (fT (fT (fT (fT (fT (fT (fT (fT vi 52 (nI nd4)) 17 (nI a2144)) 19 (nI f2144)) 20 sg144) 18 wd144) 75 (nI w2149)) 74 (nI d2149)) 21 s2149) 22 p2149) 76 (vi 76)) 77 (vi 77) = fT (fT (fT (fT (fT (fT (fT (fT (fT vi 52 (nI nd4)) 17 (nI a2144)) 19 (nI f2144)) 20 sg144) 18 wd144) 75 (nI w2149)) 74 (nI d2149)) 21 s2149) 22 p2149 := Eq.trans (mv_1 rfl) (Eq.trans (id_10 rfl) (id_9 rfl))
            have hP := wr_Pi e9 hP
            have hD := wr_Di e9 hD
            clear e9
            have e9 : fT (fT (fT (fT (fT (fT (fT (fT (fT (fT (fT (fT (fT vF 29 b29) 30 b30) 31 b31) 32 b32) 33 b33) 34 b34) 35 b35) 42 g42149) 39 g39149) 40 g40149) 41 g41149) 47 g47149) 48 g48149 = fT (fT (fT (fT (fT (fT (fT (fT (fT (fT (fT (fT (fT vF 29 b29) 30 b30) 31 b31) 32 b32) 33 b33) 34 b34) 35 b35) 42 g42149) 41 g41149) 39 g39149) 40 g40149) 47 g47149) 48 g48149 := Eq.trans (mv_2 rfl) (Eq.trans (mv_4 rfl) (Eq.trans (mv_4 rfl) (Eq.trans (mv_4 rfl) (mv_4 rfl))))
            have hP := wr_PF e9 hP
            have hD := wr_DF e9 hD
            clear e9
            exact W.vret hx hb hr (fun t9_ ht hW => ⟨⟨(a2144, f2144, sg144, wd144, s2149, p2149, b29, b30, b31, b32, b33, b34, b35, g39149, g40149, g41149, g42149, g47149, g48149, d2149, w2149, nd4, (vi 76), (vi 77), G4), rfl, by (try dsimp only); exact ⟨f144_0, by omega, f149_0, by rcases f149_1 with h9 | h9; (exact Or.inl h9); (exact Or.inr ⟨RdS.push (gm := gl) hK4.1 hBel hK4.2.1 (Nat.le_refl _) (fun q hq => ⟨rfl, rfl, by rw [upd_at (by omega), if_neg (by omega)], by rw [upd_at (by omega), if_neg (by omega), upd_at (by omega), if_neg (by omega)], rfl⟩) h39 (by decide) h48 (by omega) ⟨⟨by omega, fun _ => by omega, fun _ => by omega, Nat.le_refl _⟩, Or.inr (Or.inr (Or.inr (Or.inr (Or.inr (Or.inr (Or.inr (Or.inl ⟨rfl, rfl, hq0, rfl, rfl, 1, 0, Or.inr ⟨rfl, c1, by rw [upd_at (by omega), if_pos rfl], hL4⟩, Or.inl ⟨by rw [upd_at (by omega), if_pos rfl], rfl⟩, rfl⟩)))))))⟩ f149_2 (by rw [← hwc]; exact h9.2) (show (3 : Int32) = nI 3 by decide) (by decide) (by omega) (by omega) (by omega) (by omega) hK4.2.2.2 (by show 10 * (4000 - _) + dN + 1 + 5 ≤ mM - 1; omega), hK4.2.1.less (Nat.zero_le _)⟩), by omega⟩, by rw [ht]; exact hP, hD⟩, hS.F ht⟩) hS.2.2 dX12_readTruth_152
          · have f137_0 : ¬ ((vi 18).toInt = 2 ∧ (vi 20) = 7) := f137_0
            refine lv_if_eq (tgt := 153) hx hb dX12_readTruth_140 (by decide) (fun _ => ?_) (fun c9 => absurd (by decide) c9)
            refine lv_aload_n hx hb dX12_readTruth_153 rfl (lv_at hl 0 rfl) ?_
            refine lv_aload_n hx hb dX12_readTruth_154 rfl (lv_at hl 0 rfl) ?_
            refine va_get (D := (dC, dI)) (ci := 12) (v := .ref (a 41)) (C := RX12) (T := TX12) (N := 163) (fs := fM (vS a (fT vi 52 (nI nd4)) vj)) hx hb hts iwsRX12_readTruth_in12 hown hK hP 0 rfl rfl 66 (by decide) (hts _ hm_r_X12_readTruth_3) (fun _ h9 => h9) rfl dX12_readTruth_155 ?_
            refine lv_iload_n hx hb dX12_readTruth_158 rfl (lv_at hl 1 rfl) ?_
            refine va_iald (cA := k 41) (n := 120) (f := (upd (vF 41) ((nI dN)).toNatClampNeg (nI c1))) hx hb hK hP 42 41 (WR_get 41 (by decide)) (TR_get 41 (by decide)) (vp_in_nI (show dN < 120 by omega) (by omega)) dX12_readTruth_159 ?_
            refine lv_topi (fun y14 hy14 => ?_)
            obtain rfl : ((upd (vF 41) ((nI dN)).toNatClampNeg (nI c1)) dN) = y14 := (hy14.trans (by rw [nI_clamp (by omega)])).symm
            refine lv_topi (fun y15 hy15 => ?_)
            obtain rfl : (nI c1) = y15 := (hy15.trans (by rw [upd_at (by omega), if_pos rfl])).symm
            have hFc := allFree hD hS hA
            refine va_callv (va_runV (As := [.int (nI c1)]) (rest := []) ⟨hx, hb, hml, hown, hts⟩ (r_X12_end1w l dC dI a k h0 (fT vi 52 (nI nd4)) vj (fT (fT (fT (fT (fT (fT (fT (fT (fT vF 29 b29) 30 b30) 31 b31) 32 b32) 33 b33) 34 b34) 35 b35) 42 (upd (upd (vF 42) ((nI dN)).toNatClampNeg (nI c3)) ((nI dN)).toNatClampNeg (-1))) 41 (upd (vF 41) ((nI dN)).toNatClampNeg (nI c1))) vG (nI c1) dN wi xe (hdp) (by first | with_reducible assumption | decide | omega | rfl | assumption) hwi (by first | with_reducible assumption | decide | omega | rfl | assumption) (h48) (by first | with_reducible assumption | decide | omega | rfl | assumption) H.size) (cwV 1 hts gwsRX12_readTruth_4 rfl rfl rfl hd_yX12_end1_RX12 (by decide +kernel)) (fz_pre (va_recv hK hP (ci := 12) (q0 := 0) rfl rfl) hP hK hD) rfl rfl hl.1 rfl (lv_room (Nat.le_of_ble_eq_true rfl)) dX12_readTruth_160 (by decide +kernel)) hS (fun q _ h => hFc q h) hFc (fun u t9_ H locs ht hvm hw9 hB9 hz1 hk1 hS => ?_)
            have hP : va_P (dC, dI) vwCl (WR a k h0 (fT (fT (fT (fT (fT vi 52 (nI nd4)) 74 (nI dN)) 75 (nI (wi - xe))) 76 (nI c1)) 77 ((vF 47) dN)) vj (fT (fT (fT (fT (fT (fT (fT (fT (fT vF 29 b29) 30 b30) 31 b31) 32 b32) 33 b33) 34 b34) 35 b35) 42 (upd (upd (vF 42) ((nI dN)).toNatClampNeg (nI c3)) ((nI dN)).toNatClampNeg (-1))) 41 (upd (vF 41) ((nI dN)).toNatClampNeg (nI c1))) vG) H := fz_P ht hB9.1
            have hD := fz_sd hP (hB9.2.weaken (fun _ q _ h => hFc q.1 h)) rfl
            refine W.widen (k := 0) (n := 0) (by decide +kernel) (by decide +kernel) ?_
            have e9 : fT (fT (fT (fT (fT (fT (fT (fT (fT (fT (fT vi 52 (nI nd4)) 17 (nI an)) 19 (nI fn)) 20 (vi 20)) 18 (vi 18)) 75 (nI (wi - xe))) 74 (nI dN)) 21 (vi 21)) 22 (vi 22)) 76 (nI c1)) 77 ((vF 47) dN) = fT (fT (fT (fT (fT vi 52 (nI nd4)) 74 (nI dN)) 75 (nI (wi - xe))) 76 (nI c1)) 77 ((vF 47) dN) := Eq.trans (mv_9 rfl) (Eq.trans (congrArg (fT _ 17) (show nI an = vi 17 from (by first | with_reducible rfl | with_reducible assumption | (symm; with_reducible assumption) | rfl | assumption | (symm; assumption) | (subst_vars; rfl)))) (Eq.trans (id_10 rfl) (Eq.trans (mv_8 rfl) (Eq.trans (congrArg (fT _ 19) (show nI fn = vi 19 from (by first | with_reducible rfl | with_reducible assumption | (symm; with_reducible assumption) | rfl | assumption | (symm; assumption) | (subst_vars; rfl)))) (Eq.trans (id_9 rfl) (Eq.trans (mv_7 rfl) (Eq.trans (id_8 rfl) (Eq.trans (mv_6 rfl) (Eq.trans (id_7 rfl) (Eq.trans (mv_3 rfl) (Eq.trans (id_6 rfl) (Eq.trans (mv_2 rfl) (Eq.trans (id_5 rfl) (Eq.trans (mv_2 rfl) (Eq.trans (mv_3 rfl) (Eq.trans (mv_3 rfl) (mv_3 rfl)))))))))))))))))
            have hP := wr_Pi e9 hP
            have hD := wr_Di e9 hD
            clear e9
            have e9 : fT (fT (fT (fT (fT (fT (fT (fT (fT (fT (fT (fT (fT vF 29 b29) 30 b30) 31 b31) 32 b32) 33 b33) 34 b34) 35 b35) 42 (upd (upd (vF 42) ((nI dN)).toNatClampNeg (nI c3)) ((nI dN)).toNatClampNeg (-1))) 39 (vF 39)) 40 (vF 40)) 41 (upd (vF 41) ((nI dN)).toNatClampNeg (nI c1))) 47 (vF 47)) 48 (vF 48) = fT (fT (fT (fT (fT (fT (fT (fT (fT vF 29 b29) 30 b30) 31 b31) 32 b32) 33 b33) 34 b34) 35 b35) 42 (upd (upd (vF 42) ((nI dN)).toNatClampNeg (nI c3)) ((nI dN)).toNatClampNeg (-1))) 41 (upd (vF 41) ((nI dN)).toNatClampNeg (nI c1)) := Eq.trans (mv_4 rfl) (Eq.trans (id_12 rfl) (Eq.trans (mv_3 rfl) (Eq.trans (id_11 rfl) (Eq.trans (mv_1 rfl) (Eq.trans (id_10 rfl) (id_9 rfl))))))
            have hP := wr_PF e9 hP
            have hD := wr_DF e9 hD
            clear e9
            exact W.vret hx hb hr (fun t9_ ht hW => ⟨⟨(an, fn, (vi 20), (vi 18), (vi 21), (vi 22), b29, b30, b31, b32, b33, b34, b35, (vF 39), (vF 40), (upd (vF 41) ((nI dN)).toNatClampNeg (nI c1)), (upd (upd (vF 42) ((nI dN)).toNatClampNeg (nI c3)) ((nI dN)).toNatClampNeg (-1)), (vF 47), (vF 48), dN, (wi - xe), nd4, (nI c1), ((vF 47) dN), G4), rfl, by (try dsimp only); exact ⟨hLx, Nat.le_refl _, hst0, Or.inr ⟨by (have e9 : wi - xe = cw := by omega); rw [e9]; exact RdS.pop (ex := xe) hK4.1 hBel hK4.2.1 (Nat.le_refl _) (fun q hq => ⟨rfl, rfl, by rw [upd_at (by omega), if_neg (by omega)], by rw [upd_at (by omega), if_neg (by omega), upd_at (by omega), if_neg (by omega)], rfl⟩) (by omega) (fun _ => by omega) (by decide) (Or.inr ⟨by decide, hL4⟩) (by omega) (by omega) (by omega) (by omega) hK4.2.2.2 (by omega), hK4.2.1.less (Nat.zero_le _)⟩, by omega⟩, by rw [ht]; exact hP, hD⟩, hS.F ht⟩) hS.2.2 dX12_readTruth_163
  · have t_6 : (((vF 40) dN)).toInt = 0 := toI_nne c_6 rfl (by decide)
    have hz := hTq.truth.resolve_right (fun h => absurd (c_6.symm.trans h.1) (by decide))
    have hK0 := RdK.first (gl := gl) hRV (by omega)
    refine lv_aload_n hx hb dX12_readTruth_9 rfl (lv_at hl 0 rfl) ?_
    refine va_get (D := (dC, dI)) (ci := 12) (v := .ref (a 40)) (C := RX12) (T := TX12) (N := 163) (fs := fM (vS a vi vj)) hx hb hts iwsRX12_readTruth_in12 hown hK hP 0 rfl rfl 65 (by decide) (hts _ hm_r_X12_readTruth_0) (fun _ h9 => h9) rfl dX12_readTruth_10 ?_
    refine lv_iload_n hx hb dX12_readTruth_13 rfl (lv_at hl 1 rfl) ?_
    refine lv_iconst (v := 1) hx hb dX12_readTruth_14 (by decide) ?_
    refine va_iast (cA := k 40) (n := 120) (f := (vF 40)) hx hb hK hP hD hS 41 40 (WR_get 40 (by decide)) (TR_get 40 (by decide)) (vp_in_nI (show dN < 120 by omega) (by omega)) dX12_readTruth_15 (fun H locs hP hD hS => ?_)
    have hP : va_P (dC, dI) vwCl (WR a k h0 vi vj (fT vF 40 (upd (vF 40) ((nI dN)).toNatClampNeg 1)) vG) H := fz_w (WR_F 40 (by decide) _ rfl) hP
    have hD : va_D A (WR a k h0 vi vj (fT vF 40 (upd (vF 40) ((nI dN)).toNatClampNeg 1)) vG) := fz_wD (WR_F 40 (by decide) _ rfl) hD
    refine lv_aload_n hx hb dX12_readTruth_16 rfl (lv_at hl 0 rfl) ?_
    refine lv_iconst (v := 3) hx hb dX12_readTruth_17 (by decide) ?_
    have hFc := allFree hD hS hA
    refine va_callv (va_runV (As := [.int 3]) (rest := []) ⟨hx, hb, hml, hown, hts⟩ (r_X12_begin1 l dC dI a k h0 vi vj (fT vF 40 (upd (vF 40) ((nI dN)).toNatClampNeg 1)) vG 3 tp an fn nm se pa va bd (dN + 1) wi hTp (by first | with_reducible assumption | decide | omega | rfl | assumption) ha0 hfr (by first | with_reducible assumption | decide | omega | rfl | assumption) (by first | with_reducible assumption | decide | omega | rfl | assumption) hnm (by first | with_reducible assumption | decide | omega | rfl | assumption) (by first | with_reducible assumption | decide | omega | rfl | assumption) (by first | with_reducible assumption | decide | omega | rfl | assumption) hbd (by first | with_reducible assumption | decide | omega | rfl | assumption) (by first | with_reducible assumption | decide | omega | rfl | assumption) (hdp) (by first | with_reducible assumption | decide | omega | rfl | assumption) hwi (by first | with_reducible assumption | decide | omega | rfl | assumption) H.size) (cwV 1 hts gwsRX12_readTruth_3 rfl rfl rfl hd_yX12_begin1_RX12 (by decide +kernel)) (fz_pre (va_recv hK hP (ci := 12) (q0 := 0) rfl rfl) hP hK hD) rfl rfl hl.1 rfl (lv_room (Nat.le_of_ble_eq_true rfl)) dX12_readTruth_18 (by decide +kernel)) hS (fun q _ h => hFc q h) hFc (fun u t9_ H locs ht hvm hw9 hB9 hz1 hk1 hS => ?_)
    revert u hw9 hB9
    refine fz_p10 ?_
    intro s218 p218 g3918 g4018 g4118 g4218 g4718 g4818 d218 w218 hw9 hB9
    try dsimp only at hw9 hB9
    have e9F : fT (fT (fT (fT (fT (fT vF 40 g4018) 39 g3918) 41 g4118) 42 g4218) 47 g4718) 48 g4818 = fT (fT (fT (fT (fT (fT (fT vF 40 (upd (vF 40) ((nI dN)).toNatClampNeg 1)) 39 g3918) 40 g4018) 41 g4118) 42 g4218) 47 g4718) 48 g4818 := (congrArg (fun g9 => fT (fT (fT (fT g9 41 g4118) 42 g4218) 47 g4718) 48 g4818) ((fT_sw _ _ _ (Nat.ne_of_beq_eq_false rfl)).trans (congrArg (fun g9 => fT g9 39 g3918) (fT_sm _ _ _ _)))).symm
    have hP := wr_PF e9F (fz_P ht hB9.1)
    have hD := wr_DF e9F (hB9.2.weaken (fun _ q _ h => hFc q.1 h))
    clear e9F
    revert hw9
    refine fz_a4 ?_
    intro f18_0 f18_1 f18_2 f18_3
    have f18_1 : 0 < (s218).toInt ∨ (s218 = (vi 21) ∧ BgO 3 (vi 18) (vi 20) g3918 g4018 g4118 g4218 g4818 (dN + 1) wi d218 w218) := f18_1
    have f18_2 : FrmO (dN + 1) (vF 39) (upd (vF 40) ((nI dN)).toNatClampNeg 1) (vF 41) (vF 42) (vF 48) g3918 g4018 g4118 g4218 g4818 := f18_2
    refine W.widen (k := 0) (n := 0) (by decide +kernel) (by decide +kernel) ?_
    have e9 : fT (fT (fT (fT (fT (fT (fT (fT (fT (fT (fT vi 52 (nI nd)) 17 (nI an)) 19 (nI fn)) 20 (vi 20)) 18 (vi 18)) 75 (nI w218)) 74 (nI d218)) 21 s218) 22 p218) 76 (vi 76)) 77 (vi 77) = fT (fT (fT (fT vi 75 (nI w218)) 74 (nI d218)) 21 s218) 22 p218 := Eq.trans (mv_10 rfl) (Eq.trans (congrArg (fT _ 52) (show nI nd = vi 52 from (by first | with_reducible rfl | with_reducible assumption | (symm; with_reducible assumption) | rfl | assumption | (symm; assumption) | (subst_vars; rfl)))) (Eq.trans (id_10 rfl) (Eq.trans (mv_9 rfl) (Eq.trans (congrArg (fT _ 17) (show nI an = vi 17 from (by first | with_reducible rfl | with_reducible assumption | (symm; with_reducible assumption) | rfl | assumption | (symm; assumption) | (subst_vars; rfl)))) (Eq.trans (id_9 rfl) (Eq.trans (mv_8 rfl) (Eq.trans (congrArg (fT _ 19) (show nI fn = vi 19 from (by first | with_reducible rfl | with_reducible assumption | (symm; with_reducible assumption) | rfl | assumption | (symm; assumption) | (subst_vars; rfl)))) (Eq.trans (id_8 rfl) (Eq.trans (mv_7 rfl) (Eq.trans (id_7 rfl) (Eq.trans (mv_6 rfl) (Eq.trans (id_6 rfl) (Eq.trans (mv_1 rfl) (Eq.trans (id_5 rfl) (id_4 rfl)))))))))))))))
    have hP := wr_Pi e9 hP
    have hD := wr_Di e9 hD
    clear e9
    have e9 : fT (fT (fT (fT (fT (fT (fT (fT (fT (fT (fT (fT (fT vF 29 (vF 29)) 30 (vF 30)) 31 (vF 31)) 32 (vF 32)) 33 (vF 33)) 34 (vF 34)) 35 (vF 35)) 42 g4218) 39 g3918) 40 g4018) 41 g4118) 47 g4718) 48 g4818 = fT (fT (fT (fT (fT (fT vF 40 g4018) 39 g3918) 41 g4118) 42 g4218) 47 g4718) 48 g4818 := Eq.trans (mv_12 rfl) (Eq.trans (id_12 rfl) (Eq.trans (mv_11 rfl) (Eq.trans (id_11 rfl) (Eq.trans (mv_10 rfl) (Eq.trans (id_10 rfl) (Eq.trans (mv_9 rfl) (Eq.trans (id_9 rfl) (Eq.trans (mv_8 rfl) (Eq.trans (id_8 rfl) (Eq.trans (mv_7 rfl) (Eq.trans (id_7 rfl) (Eq.trans (mv_6 rfl) (Eq.trans (id_6 rfl) (Eq.trans (mv_3 rfl) (Eq.trans (mv_4 rfl) (Eq.trans (mv_4 rfl) (Eq.trans (mv_5 rfl) (Eq.trans (mv_5 rfl) (mv_5 rfl)))))))))))))))))))
    have hP := wr_PF e9 hP
    have hD := wr_DF e9 hD
    clear e9
    exact W.vret hx hb hr (fun t9_ ht hW => ⟨⟨(an, fn, (vi 20), (vi 18), s218, p218, (vF 29), (vF 30), (vF 31), (vF 32), (vF 33), (vF 34), (vF 35), g3918, g4018, g4118, g4218, g4718, g4818, d218, w218, nd, (vi 76), (vi 77), gG), rfl, by (try dsimp only); exact ⟨hLx, by omega, f18_0, by rcases f18_1 with h9 | h9; (exact Or.inl h9); (exact Or.inr ⟨RdS.push (gm := gl) hK0.1 hBel hK0.2.1 (Nat.le_refl _) (fun q hq => ⟨rfl, by rw [upd_at (by omega), if_neg (by omega)], rfl, rfl, rfl⟩) h39 (by decide) h48 (by omega) ⟨⟨by omega, fun _ => by omega, fun _ => by omega, Nat.le_refl _⟩, Or.inr (Or.inr (Or.inr (Or.inr (Or.inr (Or.inr (Or.inr (Or.inl ⟨rfl, rfl, by rw [upd_at (by omega), if_pos rfl], rfl, rfl, 0, 0, Or.inl ⟨hz.2.1, rfl⟩, Or.inl ⟨hz.2.2.1, rfl⟩, rfl⟩)))))))⟩ f18_2 (by rw [← hwc]; exact h9.2) (show (3 : Int32) = nI 3 by decide) (by decide) (by omega) (by omega) (by omega) (by omega) (by omega) (by show 10 * (4000 - _) + dN + 1 + 5 ≤ mM - 1; omega), hK0.2.1.less (Nat.zero_le _)⟩), by omega⟩, by rw [ht]; exact hP, hD⟩, hS.F ht⟩) hS.2.2 dX12_readTruth_21
end
section
theorem RTp.one0 {T : Nat → Nat → Int32} {G : RG} {f29 f30 f31 f32 f36 f37 f38 f40 f41 f42 : Nat → Int32} {wd sg res : Int32} {se bs i w u ex gl gm p1 n1 m1 tw : Nat} (h : RTp T G f29 f30 f31 f32 f36 f37 f38 f40 f41 f42 wd sg res se bs i 3 w u ex gl gm p1 n1 m1 tw) (e : f40 i = 0) : f41 i = -1 ∧ f42 i = -1 ∧ p1 = 0 ∧ n1 = 0 ∧ m1 = 0 ∧ gm = gl ∧ ex ≤ 1 ∧ (wd = 2 → sg = 10 → ex = 1) ∧ tw = 5 := by
  rcases h with ⟨h1, h2, h3, ⟨a1, a2, a3, a4⟩, ⟨a6, a5⟩, a7, h4⟩ | ⟨h1, ck, ⟨⟨b0, b1, b3, b2⟩, h2⟩, c, h3, h4⟩
  · exact ⟨h2, h3, a1, a2, a3, a4, a6, a7 rfl, by omega⟩
  · rcases h2 with h | h | h | h | h | h | h | h | h | h | h | h
    · exact absurd h.1 (by decide)
    · exact absurd h.1 (by decide)
    · exact absurd h.1 (by decide)
    · exact absurd h.1 (by decide)
    · exact absurd h.1 (by decide)
    · exact absurd h.1 (by decide)
    · exact absurd h.1 (by decide)
    · exact absurd h.1 (by decide)
    · exact absurd (e.symm.trans h.2.2.1) (by decide)
    · exact absurd (e.symm.trans h.2.2.1) (by decide)
    · exact absurd (e.symm.trans h.2.2.1) (by decide)
    · exact absurd (e.symm.trans h.2.2.1) (by decide)
theorem RTp.one1 {T : Nat → Nat → Int32} {G : RG} {f29 f30 f31 f32 f36 f37 f38 f40 f41 f42 : Nat → Int32} {wd sg res : Int32} {se bs i w u ex gl gm p1 n1 m1 tw : Nat} (h : RTp T G f29 f30 f31 f32 f36 f37 f38 f40 f41 f42 wd sg res se bs i 3 w u ex gl gm p1 n1 m1 tw) (e : f40 i = 1) : p1 = 1 ∧ n1 = 0 ∧ m1 = 0 ∧ gl ≤ gm ∧ ex = 1 ∧ tw = 1 ∧ ∃ c, res = nI c ∧ TruO G f29 c (51 - 2 * w) := by
  rcases h with ⟨h1, h2, h3, ⟨a1, a2, a3, a4⟩, ⟨a6, a5⟩, a7, h4⟩ | ⟨h1, ck, ⟨⟨b0, b1, b3, b2⟩, h2⟩, c, h3, h4⟩
  · exact absurd (e.symm.trans h1) (by decide)
  · rcases h2 with h | h | h | h | h | h | h | h | h | h | h | h
    · exact absurd h.1 (by decide)
    · exact absurd h.1 (by decide)
    · exact absurd h.1 (by decide)
    · exact absurd h.1 (by decide)
    · exact absurd h.1 (by decide)
    · exact absurd h.1 (by decide)
    · exact absurd h.1 (by decide)
    · exact absurd h.1 (by decide)
    · (rcases h4 with h4 | h4 | h4); (exact absurd (h.2.1 ▸ h4.1) (by decide)); (exact absurd (h.2.1.symm.trans h4.1) (by decide)); (exact ⟨h.2.2.2.2.2, h.2.2.2.1, h.2.2.2.2.1, b2, b3 h.2.1, h1, c, h3, h4.2.2⟩)
    · exact absurd (e.symm.trans h.2.2.1) (by decide)
    · exact absurd (e.symm.trans h.2.2.1) (by decide)
    · exact absurd (e.symm.trans h.2.2.1) (by decide)
theorem RTp.one2 {T : Nat → Nat → Int32} {G : RG} {f29 f30 f31 f32 f36 f37 f38 f40 f41 f42 : Nat → Int32} {wd sg res : Int32} {se bs i w u ex gl gm p1 n1 m1 tw : Nat} (h : RTp T G f29 f30 f31 f32 f36 f37 f38 f40 f41 f42 wd sg res se bs i 3 w u ex gl gm p1 n1 m1 tw) (e : f40 i = 2) : p1 = 0 ∧ n1 = 0 ∧ m1 = 0 ∧ gl ≤ gm ∧ ex ≤ 1 ∧ tw = 1 ∧ w ≤ 24 ∧ ∃ c, res = nI c ∧ TruO G f29 c (49 - 2 * w) := by
  rcases h with ⟨h1, h2, h3, ⟨a1, a2, a3, a4⟩, ⟨a6, a5⟩, a7, h4⟩ | ⟨h1, ck, ⟨⟨b0, b1, b3, b2⟩, h2⟩, c, h3, h4⟩
  · exact absurd (e.symm.trans h1) (by decide)
  · rcases h2 with h | h | h | h | h | h | h | h | h | h | h | h
    · exact absurd h.1 (by decide)
    · exact absurd h.1 (by decide)
    · exact absurd h.1 (by decide)
    · exact absurd h.1 (by decide)
    · exact absurd h.1 (by decide)
    · exact absurd h.1 (by decide)
    · exact absurd h.1 (by decide)
    · exact absurd h.1 (by decide)
    · exact absurd (e.symm.trans h.2.2.1) (by decide)
    · (rcases h4 with h4 | h4 | h4); (exact absurd (h.2.1 ▸ h4.1) (by decide)); (exact ⟨h.2.2.2.2.2, h.2.2.2.1, h.2.2.2.2.1, b2, b0, h1, h4.2.1, c, h3, h4.2.2⟩); (exact absurd (h.2.1.symm.trans h4.1) (by decide))
    · exact absurd (e.symm.trans h.2.2.1) (by decide)
    · exact absurd (e.symm.trans h.2.2.1) (by decide)
theorem RTp.one3 {T : Nat → Nat → Int32} {G : RG} {f29 f30 f31 f32 f36 f37 f38 f40 f41 f42 : Nat → Int32} {wd sg res : Int32} {se bs i w u ex gl gm p1 n1 m1 tw : Nat} (h : RTp T G f29 f30 f31 f32 f36 f37 f38 f40 f41 f42 wd sg res se bs i 3 w u ex gl gm p1 n1 m1 tw) (e : f40 i = 3) : p1 = 0 ∧ n1 = 0 ∧ m1 = 0 ∧ gl ≤ gm ∧ ex ≤ 1 ∧ tw = 1 ∧ w ≤ 24 ∧ ∃ c, res = nI c ∧ LinO G f29 c (49 - 2 * w) := by
  rcases h with ⟨h1, h2, h3, ⟨a1, a2, a3, a4⟩, ⟨a6, a5⟩, a7, h4⟩ | ⟨h1, ck, ⟨⟨b0, b1, b3, b2⟩, h2⟩, c, h3, h4⟩
  · exact absurd (e.symm.trans h1) (by decide)
  · rcases h2 with h | h | h | h | h | h | h | h | h | h | h | h
    · exact absurd h.1 (by decide)
    · exact absurd h.1 (by decide)
    · exact absurd h.1 (by decide)
    · exact absurd h.1 (by decide)
    · exact absurd h.1 (by decide)
    · exact absurd h.1 (by decide)
    · exact absurd h.1 (by decide)
    · exact absurd h.1 (by decide)
    · exact absurd (e.symm.trans h.2.2.1) (by decide)
    · exact absurd (e.symm.trans h.2.2.1) (by decide)
    · (rcases h4 with h4 | h4 | h4); (exact ⟨h.2.2.2.2.2, h.2.2.2.1, h.2.2.2.2.1, b2, b0, h1, h4.2.1, c, h3, h4.2.2⟩); (exact absurd (h.2.1.symm.trans h4.1) (by decide)); (exact absurd (h.2.1.symm.trans h4.1) (by decide))
    · exact absurd (e.symm.trans h.2.2.1) (by decide)
theorem RTp.one4 {T : Nat → Nat → Int32} {G : RG} {f29 f30 f31 f32 f36 f37 f38 f40 f41 f42 : Nat → Int32} {wd sg res : Int32} {se bs i w u ex gl gm p1 n1 m1 tw : Nat} (h : RTp T G f29 f30 f31 f32 f36 f37 f38 f40 f41 f42 wd sg res se bs i 3 w u ex gl gm p1 n1 m1 tw) (e0 : ¬ f40 i = 0) (e1 : ¬ f40 i = 1) (e2 : ¬ f40 i = 2) (e3 : ¬ f40 i = 3) : p1 = 1 ∧ n1 = 0 ∧ m1 = 0 ∧ gl ≤ gm ∧ ex ≤ 1 ∧ tw = 1 ∧ w ≤ 24 ∧ ∃ c d, res = nI c ∧ LinO G f29 c (49 - 2 * w) ∧ f41 i = nI d ∧ LinO G f29 d (51 - 2 * w) := by
  rcases h with ⟨h1, h2, h3, ⟨a1, a2, a3, a4⟩, ⟨a6, a5⟩, a7, h4⟩ | ⟨h1, ck, ⟨⟨b0, b1, b3, b2⟩, h2⟩, c, h3, h4⟩
  · exact absurd h1 e0
  · rcases h2 with h | h | h | h | h | h | h | h | h | h | h | h
    · exact absurd h.1 (by decide)
    · exact absurd h.1 (by decide)
    · exact absurd h.1 (by decide)
    · exact absurd h.1 (by decide)
    · exact absurd h.1 (by decide)
    · exact absurd h.1 (by decide)
    · exact absurd h.1 (by decide)
    · exact absurd h.1 (by decide)
    · exact absurd h.2.2.1 e1
    · exact absurd h.2.2.1 e2
    · exact absurd h.2.2.1 e3
    · (obtain ⟨_, g1, _, g2, g3, g4, d, g5, g6⟩ := h); (rcases h4 with h4 | h4 | h4); (exact ⟨g4, g2, g3, b2, b0, h1, h4.2.1, c, d, h3, h4.2.2, g5, g6⟩); (exact absurd (g1.symm.trans h4.1) (by decide)); (exact absurd (g1.symm.trans h4.1) (by decide))
end

section
theorem hd_yX12_addsUp_RX12 : yX12_addsUp.cls = RX12 ∧ yX12_addsUp.cls ≠ "java/lang/invoke/MethodHandle" ∧ yX12_addsUp.cls ≠ "java/lang/invoke/VarHandle" ∧ (parseMethodDescriptor yX12_addsUp.desc).map (fun d => d.parameters.length) = some 0 := by decide +kernel
theorem hd_yX12_shorten_RX12 : yX12_shorten.cls = RX12 ∧ yX12_shorten.cls ≠ "java/lang/invoke/MethodHandle" ∧ yX12_shorten.cls ≠ "java/lang/invoke/VarHandle" ∧ (parseMethodDescriptor yX12_shorten.desc).map (fun d => d.parameters.length) = some 2 := by decide +kernel
theorem hd_yX12_listNeeds_RX12 : yX12_listNeeds.cls = RX12 ∧ yX12_listNeeds.cls ≠ "java/lang/invoke/MethodHandle" ∧ yX12_listNeeds.cls ≠ "java/lang/invoke/VarHandle" ∧ (parseMethodDescriptor yX12_listNeeds.desc).map (fun d => d.parameters.length) = some 0 := by decide +kernel
theorem hd_yX12_shortBest_RX12 : yX12_shortBest.cls = RX12 ∧ yX12_shortBest.cls ≠ "java/lang/invoke/MethodHandle" ∧ yX12_shortBest.cls ≠ "java/lang/invoke/VarHandle" ∧ (parseMethodDescriptor yX12_shortBest.desc).map (fun d => d.parameters.length) = some 0 := by decide +kernel
theorem hd_yX12_best1_RX12 : yX12_best1.cls = RX12 ∧ yX12_best1.cls ≠ "java/lang/invoke/MethodHandle" ∧ yX12_best1.cls ≠ "java/lang/invoke/VarHandle" ∧ (parseMethodDescriptor yX12_best1.desc).map (fun d => d.parameters.length) = some 0 := by decide +kernel
theorem hd_yX12_multipliers_RX12 : yX12_multipliers.cls = RX12 ∧ yX12_multipliers.cls ≠ "java/lang/invoke/MethodHandle" ∧ yX12_multipliers.cls ≠ "java/lang/invoke/VarHandle" ∧ (parseMethodDescriptor yX12_multipliers.desc).map (fun d => d.parameters.length) = some 0 := by decide +kernel
theorem hd_yX12_proves_RX12 : yX12_proves.cls = RX12 ∧ yX12_proves.cls ≠ "java/lang/invoke/MethodHandle" ∧ yX12_proves.cls ≠ "java/lang/invoke/VarHandle" ∧ (parseMethodDescriptor yX12_proves.desc).map (fun d => d.parameters.length) = some 0 := by decide +kernel
theorem dX12_proves_0 : decode cX12_proves 0 = .ok (.aload_n 0, 1) := dk_42 (by decide +kernel)
theorem dX12_proves_1 : decode cX12_proves 1 = .ok (.invokevirtual 912, 3) := dk_182 (by decide +kernel)
theorem dX12_proves_4 : decode cX12_proves 4 = .ok (.ifCond .ne 5, 3) := dk_154 (by decide +kernel)
theorem dX12_proves_7 : decode cX12_proves 7 = .ok (.iconst 0, 1) := dk_3 (by decide +kernel)
theorem dX12_proves_8 : decode cX12_proves 8 = .ok (.ireturn, 1) := dk_172 (by decide +kernel)
theorem dX12_proves_9 : decode cX12_proves 9 = .ok (.aload_n 0, 1) := dk_42 (by decide +kernel)
theorem dX12_proves_10 : decode cX12_proves 10 = .ok (.sipush 1048, 3) := dk_17 (by decide +kernel)
theorem dX12_proves_13 : decode cX12_proves 13 = .ok (.bipush 20, 2) := dk_16 (by decide +kernel)
theorem dX12_proves_15 : decode cX12_proves 15 = .ok (.sipush 1045, 3) := dk_17 (by decide +kernel)
theorem dX12_proves_18 : decode cX12_proves 18 = .ok (.invokevirtual 390, 3) := dk_182 (by decide +kernel)
theorem dX12_proves_21 : decode cX12_proves 21 = .ok (.aload_n 0, 1) := dk_42 (by decide +kernel)
theorem dX12_proves_22 : decode cX12_proves 22 = .ok (.aload_n 0, 1) := dk_42 (by decide +kernel)
theorem dX12_proves_23 : decode cX12_proves 23 = .ok (.aload_n 0, 1) := dk_42 (by decide +kernel)
theorem dX12_proves_24 : decode cX12_proves 24 = .ok (.getfield 399, 3) := dk_180 (by decide +kernel)
theorem dX12_proves_27 : decode cX12_proves 27 = .ok (.iconst 1, 1) := dk_4 (by decide +kernel)
theorem dX12_proves_28 : decode cX12_proves 28 = .ok (.iadd, 1) := dk_96 (by decide +kernel)
theorem dX12_proves_29 : decode cX12_proves 29 = .ok (.aload_n 0, 1) := dk_42 (by decide +kernel)
theorem dX12_proves_30 : decode cX12_proves 30 = .ok (.getfield 396, 3) := dk_180 (by decide +kernel)
theorem dX12_proves_33 : decode cX12_proves 33 = .ok (.invokevirtual 405, 3) := dk_182 (by decide +kernel)
theorem dX12_proves_36 : decode cX12_proves 36 = .ok (.sipush 1048, 3) := dk_17 (by decide +kernel)
theorem dX12_proves_39 : decode cX12_proves 39 = .ok (.sipush 1046, 3) := dk_17 (by decide +kernel)
theorem dX12_proves_42 : decode cX12_proves 42 = .ok (.sipush 1047, 3) := dk_17 (by decide +kernel)
theorem dX12_proves_45 : decode cX12_proves 45 = .ok (.invokevirtual 862, 3) := dk_182 (by decide +kernel)
theorem dX12_proves_48 : decode cX12_proves 48 = .ok (.ifCond .lt 7, 3) := dk_155 (by decide +kernel)
theorem dX12_proves_51 : decode cX12_proves 51 = .ok (.iconst 1, 1) := dk_4 (by decide +kernel)
theorem dX12_proves_52 : decode cX12_proves 52 = .ok (.goto 4, 3) := dk_167 (by decide +kernel)
theorem dX12_proves_55 : decode cX12_proves 55 = .ok (.iconst 0, 1) := dk_3 (by decide +kernel)
theorem dX12_proves_56 : decode cX12_proves 56 = .ok (.ireturn, 1) := dk_172 (by decide +kernel)
def wsRX12_proves : List Cond := .code yX12_proves cX12_proves 1 (some .boolean) :: ([.fieldLink RX12 399 "OptimaWorksModel" "rows" "I", .fieldLink RX12 396 "OptimaWorksModel" "columns" "I"] ++ wsX120 ++ (wsV RX12 912 RX12 yX12_addsUp wsRX12_addsUp) ++ (wsV RX12 390 RX12 yX12_times wsRX12_times) ++ (wsV RX12 405 RX12 yX12_at wsRX12_at) ++ (wsV RX12 862 RX12 yX12_against wsRX12_against))
theorem iwsRX12_proves_in12 : ∀ w ∈ wsX120, w ∈ wsRX12_proves := fun _ h => List.mem_cons_of_mem _ (List.mem_append_left _ (List.mem_append_left _ (List.mem_append_left _ (List.mem_append_left _ (List.mem_append_right _ h)))))
theorem gwsRX12_proves_0 : GoodIn wsRX12_proves (wsV RX12 912 RX12 yX12_addsUp wsRX12_addsUp) := goodIn_sub (fun _ h => List.mem_cons_of_mem _ (List.mem_append_left _ (List.mem_append_left _ (List.mem_append_left _ (List.mem_append_right _ h))))) (gdV (by decide +kernel) gdwsRX12_addsUp)
theorem gwsRX12_proves_1 : GoodIn wsRX12_proves (wsV RX12 390 RX12 yX12_times wsRX12_times) := goodIn_sub (fun _ h => List.mem_cons_of_mem _ (List.mem_append_left _ (List.mem_append_left _ (List.mem_append_right _ h)))) (gdV (by decide +kernel) gdwsRX12_times)
theorem gwsRX12_proves_2 : GoodIn wsRX12_proves (wsV RX12 405 RX12 yX12_at wsRX12_at) := goodIn_sub (fun _ h => List.mem_cons_of_mem _ (List.mem_append_left _ (List.mem_append_right _ h))) (gdV (by decide +kernel) gdwsRX12_at)
theorem gwsRX12_proves_3 : GoodIn wsRX12_proves (wsV RX12 862 RX12 yX12_against wsRX12_against) := goodIn_sub (fun _ h => List.mem_cons_of_mem _ (List.mem_append_right _ h)) (gdV (by decide +kernel) gdwsRX12_against)
theorem gdwsRX12_proves : wsRX12_proves.all goodWord = true := gdC rfl (gdA (gdA (gdA (gdA (gdA (by decide +kernel : ([.fieldLink RX12 399 "OptimaWorksModel" "rows" "I", .fieldLink RX12 396 "OptimaWorksModel" "columns" "I"] : List Cond).all goodWord = true) gdwsX120) (gdV (by decide +kernel) gdwsRX12_addsUp)) (gdV (by decide +kernel) gdwsRX12_times)) (gdV (by decide +kernel) gdwsRX12_at)) (gdV (by decide +kernel) gdwsRX12_against))
set_option maxHeartbeats 4000000 in
set_option maxRecDepth 100000 in
/-- proves() -/
theorem r_X12_proves (l : Launch) (dC : Nat → ClassId) (dI : Nat → Nat → Nat) (a : Nat → Nat) (k : Nat → ClassId) (h0 : Nat) (vi : Nat → Int32) (vj : Nat → Int64) (vF : Nat → Nat → Int32) (vG : Nat → Nat → Int64) (vn : Nat) (mr : Nat) (gq : Nat) (z : Nat) (nd : Nat) (mg : Nat → Int) (hBg : Bg (vF 0) mg) (hvn : vi 90 = nI vn) (hvn8 : vn ≤ 8) (hmr12 : mr ≤ 12) (hmg : vi 93 = nI gq) (hgq : gq ≤ 3) (hM : MdlB vF gq) (hnd : vi 119 = nI nd) (hN : NdO (vF 71) (vF 72) vn mr z nd) (hPr : (vi 118 ≠ 0 ∧ Sz 294 (mg 1046) ∧ Sz 258 (mg 1047)) ∨ (Sz 224 (mg 1046) ∧ Sz 201 (mg 1047))) (sz : Nat) : Met l yX12_proves wsRX12_proves ({ frames := 7, cells := 0, slots := 0, locals := 182 }) (va_Pc [.ref h0] (fun U => U.heap.size = sz ∧ va_P (dC, dI) vwCl (WR a k h0 vi vj vF vG) U.heap ∧ va_K (dC, dI) vwCl (tX12 k) U ∧ va_D (fun _ => True) (WR a k h0 vi vj vF vG))) (va_Qi (fun (r : Int32) (u : (Nat → Int32) × (Nat → Int32) × (Nat → Int32) × (Nat → Int32) × (Nat → Int32) × (Nat → Int32) × (Nat → Int32) × (Nat → Int64) × (Nat → Int64) × (Nat → Int64) × (Int64) × (Nat → Int) × (Int32) × (Int32) × (Int32)) => (Bg (u.1) (u.2.2.2.2.2.2.2.2.2.2.2.1)) ∧ ((r) = 0 ∨ (r) = 1) ∧ (∀ q, 1000 ≤ q → q ≠ 1045 → q ≠ 1048 → (u.2.2.2.2.2.2.2.2.2.2.2.1) q = mg q)) (fun (u : (Nat → Int32) × (Nat → Int32) × (Nat → Int32) × (Nat → Int32) × (Nat → Int32) × (Nat → Int32) × (Nat → Int32) × (Nat → Int64) × (Nat → Int64) × (Nat → Int64) × (Int64) × (Nat → Int) × (Int32) × (Int32) × (Int32)) t => va_P (dC, dI) vwCl (WR a k h0 (fT (fT (fT (fT vi 5 (u.2.2.2.2.2.2.2.2.2.2.2.2.1)) 6 (u.2.2.2.2.2.2.2.2.2.2.2.2.2.1)) 7 (u.2.2.2.2.2.2.2.2.2.2.2.2.2.2)) 11 0) (fT vj 12 (u.2.2.2.2.2.2.2.2.2.2.1)) (fT (fT (fT (fT (fT (fT (fT vF 74 (u.2.2.2.2.2.2.1)) 0 (u.1)) 4 (u.2.2.2.1)) 6 (u.2.2.2.2.2.1)) 2 (u.2.1)) 3 (u.2.2.1)) 5 (u.2.2.2.2.1)) (fT (fT (fT vG 1 (u.2.2.2.2.2.2.2.1)) 7 (u.2.2.2.2.2.2.2.2.1)) 8 (u.2.2.2.2.2.2.2.2.2.1))) t.heap ∧ va_D (va_A (WR a k h0 vi vj vF vG) sz) (WR a k h0 (fT (fT (fT (fT vi 5 (u.2.2.2.2.2.2.2.2.2.2.2.2.1)) 6 (u.2.2.2.2.2.2.2.2.2.2.2.2.2.1)) 7 (u.2.2.2.2.2.2.2.2.2.2.2.2.2.2)) 11 0) (fT vj 12 (u.2.2.2.2.2.2.2.2.2.2.1)) (fT (fT (fT (fT (fT (fT (fT vF 74 (u.2.2.2.2.2.2.1)) 0 (u.1)) 4 (u.2.2.2.1)) 6 (u.2.2.2.2.2.1)) 2 (u.2.1)) 3 (u.2.2.1)) 5 (u.2.2.2.2.1)) (fT (fT (fT vG 1 (u.2.2.2.2.2.2.2.1)) 7 (u.2.2.2.2.2.2.2.2.1)) 8 (u.2.2.2.2.2.2.2.2.2.1)))) (va_A (WR a k h0 vi vj vF vG) sz)) 0 0 (va_A (WR a k h0 vi vj vF vG) sz) := by
  refine Met.ofW (cc := cX12_proves) (maxL := 1) (ret := (some .boolean)) (by decide) rfl ?_
  intro p e s m args below meth c s₁ B hml hv
  obtain ⟨rfl, hsz, hP, hK, hD0⟩ := hv
  have hx := B.exec
  have hb := B.bytes
  have hr := B.returns
  have hts := atoms_spec (ws := wsRX12_proves) B.pre
  have hown : s.vm.findClass RX12 = some m.cls := findClass_of_methodNamed B.named
  have hlocks := B.notSynchronized
  subst hsz
  have hD := hD0.self (sz := s.heap.size)
  generalize hAe : va_A (WR a k h0 vi vj vF vG) s.heap.size = A at hD ⊢
  have hA : ∀ q : Nat, s.heap.size ≤ q → A q := fun q h => by rw [← hAe]; exact Or.inr h
  have hS : va_S A s.heap s.heap [] := va_S.rf
  have hl := lv_entry ([.ref h0]) (n := 1) (Nat.le_of_ble_eq_true rfl)
  rw [lg_entry_eq]
  generalize (lg_sl ([.ref h0]) ++ List.replicate (1 - (lg_sl ([.ref h0])).length) Slot.unset).toArray = ls at hl ⊢
  have hl : lv_has ls 1 [(0, .ref h0)] := hl
  refine lv_aload_n hx hb dX12_proves_0 rfl (lv_at hl 0 rfl) ?_
  have hFc := allFree hD hS hA
  refine va_calli (va_runV (As := []) (rest := []) ⟨hx, hb, hml, hown, hts⟩ (r_X12_addsUp l dC dI a k h0 vi vj vF vG vn mr gq z nd mg hBg (by first | with_reducible assumption | decide | omega | rfl | assumption) (by first | with_reducible assumption | decide | omega | rfl | assumption) (by first | with_reducible assumption | decide | omega | rfl | assumption) (by first | with_reducible assumption | decide | omega | rfl | assumption) (by first | with_reducible assumption | decide | omega | rfl | assumption) (by first | with_reducible assumption | decide | omega | rfl | assumption) (by first | with_reducible assumption | decide | omega | rfl | assumption) (by first | with_reducible assumption | decide | omega | rfl | assumption) s.heap.size) (cwV 0 hts gwsRX12_proves_0 rfl rfl rfl hd_yX12_addsUp_RX12 (by decide +kernel)) (fz_pre (va_recv hK hP (ci := 12) (q0 := 0) rfl rfl) hP hK hD) rfl rfl hl.1 rfl (lv_room (Nat.le_of_ble_eq_true rfl)) dX12_proves_1 (by decide +kernel)) hS (fun q _ h => hFc q h) hFc (fun r1 u t9_ H locs ht hvm hw9 hB9 hz1 hk1 hS => ?_)
  revert u
  refine fz_p16 ?_
  intro g1 f2w1 f3w1 f41 f51 f61 f741 gs1 F1 L81 qd1 C1 R1 t21 D21 m21 hw9 hB9
  try dsimp only at hw9 hB9
  have hP : va_P (dC, dI) vwCl (WR a k h0 (fT (fT (fT (fT vi 5 (nI C1)) 6 (nI R1)) 7 (nI 2)) 11 0) (fT vj 12 qd1) (fT (fT (fT (fT (fT (fT (fT vF 74 f741) 0 g1) 4 f41) 6 f61) 2 f2w1) 3 f3w1) 5 f51) (fT (fT (fT vG 1 gs1) 7 F1) 8 L81)) H := fz_P ht hB9.1
  have hD : va_D A (WR a k h0 (fT (fT (fT (fT vi 5 (nI C1)) 6 (nI R1)) 7 (nI 2)) 11 0) (fT vj 12 qd1) (fT (fT (fT (fT (fT (fT (fT vF 74 f741) 0 g1) 4 f41) 6 f61) 2 f2w1) 3 f3w1) 5 f51) (fT (fT (fT vG 1 gs1) 7 F1) 8 L81)) := hB9.2.weaken (fun _ q _ h => hFc q.1 h)
  revert hw9
  refine fz_a9 ?_
  intro f1_0 f1_1 f1_2 f1_3 f1_4 f1_5 f1_6 f1_7 f1_8
  have f1_6 : 0 < m21 1045 ∧ Sz 67 (m21 1045) ∧ ((vi 118) ≠ 0 → m21 1045 = 1) := f1_6
  refine lv_if_ne (tgt := 9) hx hb dX12_proves_4 (by decide) (fun c_4 => ?_) (fun c_4 => ?_)
  · have t_4 : (r1).toInt ≠ 0 := toI_ne c_4 rfl (by decide)
    have hpl := pl_lt (C := C1) (show R1 + 1 < R1 + 2 by omega) (Nat.le_refl C1)
    have hp2 : (R1 + 2) * (C1 + 1) ≤ 20 * 42 := Nat.mul_le_mul (by omega) (by omega)
    have hgo := f1_1.1 (R1 + 1) (by omega) C1 (Nat.le_refl _)
    have h20 := f1_1.2
    refine lv_aload_n hx hb dX12_proves_9 rfl (lv_at hl 0 rfl) ?_
    refine lv_sipush (v := 1048) hx hb dX12_proves_10 (by decide) ?_
    refine lv_bipush (v := 20) hx hb dX12_proves_13 (by decide) ?_
    refine lv_sipush (v := 1045) hx hb dX12_proves_15 (by decide) ?_
    have hFc := allFree hD hS hA
    refine va_callv (va_runV (As := [.int 1048, .int 20, .int 1045]) (rest := []) ⟨hx, hb, hml, hown, hts⟩ (b_X12_times l dC dI a k h0 (fT (fT (fT (fT vi 5 (nI C1)) 6 (nI R1)) 7 (nI 2)) 11 0) (fT vj 12 qd1) (fT (fT (fT (fT (fT (fT (fT vF 74 f741) 0 g1) 4 f41) 6 f61) 2 f2w1) 3 f3w1) 5 f51) (fT (fT (fT vG 1 gs1) 7 F1) 8 L81) 1048 20 1045 m21 f1_0 (m21 20) (m21 1045) rfl rfl (by first | with_reducible assumption | decide | omega | rfl | assumption) (by first | with_reducible assumption | decide | omega | rfl | assumption) (by first | with_reducible assumption | decide | omega | rfl | assumption) (by rw [h20]; exact mulpN (c := 588) f1_2.2 f1_6.2.1 (by decide)) H.size) (cwV 3 hts gwsRX12_proves_1 rfl rfl rfl hd_yX12_times_RX12 (by decide +kernel)) (fz_pre (va_recv hK hP (ci := 12) (q0 := 0) rfl rfl) hP hK hD) rfl rfl hl.1 rfl (lv_room (Nat.le_of_ble_eq_true rfl)) dX12_proves_18 (by decide +kernel)) hS (fun q _ h => hFc q h) hFc (fun u t9_ H locs ht hvm hw9 hB9 hz1 hk1 hS => ?_)
    revert u
    refine fz_p2 ?_
    intro g18 gs18 hw9 hB9
    try dsimp only at hw9 hB9
    have hP : va_P (dC, dI) vwCl (WR a k h0 (fT (fT (fT (fT vi 5 (nI C1)) 6 (nI R1)) 7 (nI 2)) 11 0) (fT vj 12 qd1) (fT (fT (fT (fT (fT (fT (fT (fT vF 74 f741) 0 g1) 4 f41) 6 f61) 2 f2w1) 3 f3w1) 5 f51) 0 g18) (fT (fT (fT (fT vG 1 gs1) 7 F1) 8 L81) 1 gs18)) H := fz_P ht hB9.1
    have hD : va_D A (WR a k h0 (fT (fT (fT (fT vi 5 (nI C1)) 6 (nI R1)) 7 (nI 2)) 11 0) (fT vj 12 qd1) (fT (fT (fT (fT (fT (fT (fT (fT vF 74 f741) 0 g1) 4 f41) 6 f61) 2 f2w1) 3 f3w1) 5 f51) 0 g18) (fT (fT (fT (fT vG 1 gs1) 7 F1) 8 L81) 1 gs18)) := hB9.2.weaken (fun _ q _ h => hFc q.1 h)
    have e9 : fT (fT (fT (fT (fT (fT (fT vF 74 f741) 0 g18) 4 f41) 6 f61) 2 f2w1) 3 f3w1) 5 f51 = fT (fT (fT (fT (fT (fT (fT (fT vF 74 f741) 0 g1) 4 f41) 6 f61) 2 f2w1) 3 f3w1) 5 f51) 0 g18 := ((fT_sw _ _ _ (Nat.ne_of_beq_eq_false rfl)).trans (congrArg (fun g9 => fT g9 5 f51) ((fT_sw _ _ _ (Nat.ne_of_beq_eq_false rfl)).trans (congrArg (fun g9 => fT g9 3 f3w1) ((fT_sw _ _ _ (Nat.ne_of_beq_eq_false rfl)).trans (congrArg (fun g9 => fT g9 2 f2w1) ((fT_sw _ _ _ (Nat.ne_of_beq_eq_false rfl)).trans (congrArg (fun g9 => fT g9 6 f61) ((fT_sw _ _ _ (Nat.ne_of_beq_eq_false rfl)).trans (congrArg (fun g9 => fT g9 4 f41) (fT_sm _ _ _ _))))))))))).symm
    rw [← e9] at hP hD
    clear e9
    have e9 : fT (fT (fT vG 1 gs18) 7 F1) 8 L81 = fT (fT (fT (fT vG 1 gs1) 7 F1) 8 L81) 1 gs18 := ((fT_sw _ _ _ (Nat.ne_of_beq_eq_false rfl)).trans (congrArg (fun g9 => fT g9 8 L81) ((fT_sw _ _ _ (Nat.ne_of_beq_eq_false rfl)).trans (congrArg (fun g9 => fT g9 7 F1) (fT_sm _ _ _ _))))).symm
    rw [← e9] at hP hD
    clear e9
    have hP : va_P (dC, dI) vwCl (WR a k h0 (fT (fT (fT (fT vi 5 (nI C1)) 6 (nI R1)) 7 (nI 2)) 11 0) (fT vj 12 qd1) (fT (fT (fT (fT (fT (fT (fT vF 74 f741) 0 g18) 4 f41) 6 f61) 2 f2w1) 3 f3w1) 5 f51) (fT (fT (fT vG 1 gs18) 7 F1) 8 L81)) H := hP
    have hD : va_D A (WR a k h0 (fT (fT (fT (fT vi 5 (nI C1)) 6 (nI R1)) 7 (nI 2)) 11 0) (fT vj 12 qd1) (fT (fT (fT (fT (fT (fT (fT vF 74 f741) 0 g18) 4 f41) 6 f61) 2 f2w1) 3 f3w1) 5 f51) (fT (fT (fT vG 1 gs18) 7 F1) 8 L81)) := hD
    have f18_0 := hw9
    try dsimp only at f18_0
    refine lv_aload_n hx hb dX12_proves_21 rfl (lv_at hl 0 rfl) ?_
    refine lv_aload_n hx hb dX12_proves_22 rfl (lv_at hl 0 rfl) ?_
    refine lv_aload_n hx hb dX12_proves_23 rfl (lv_at hl 0 rfl) ?_
    refine va_get (D := (dC, dI)) (ci := 12) (v := .int (nI R1)) (C := RX12) (T := TX12) (N := 163) (fs := fM (vS a (fT (fT (fT (fT vi 5 (nI C1)) 6 (nI R1)) 7 (nI 2)) 11 0) (fT vj 12 qd1))) hx hb hts iwsRX12_proves_in12 hown hK hP 0 rfl rfl 6 (by decide) (hts (.fieldLink RX12 399 "OptimaWorksModel" "rows" "I") (by decide +kernel)) (fun _ h9 => h9) rfl dX12_proves_24 ?_
    refine lv_iconst (v := 1) hx hb dX12_proves_27 (by decide) ?_
    refine lv_iadd hx hb dX12_proves_28 ?_
    refine lv_topi (fun y1 hy1 => ?_)
    obtain rfl : (nI (R1 + 1)) = y1 := (hy1.trans (nI_add R1 1)).symm
    refine lv_aload_n hx hb dX12_proves_29 rfl (lv_at hl 0 rfl) ?_
    refine va_get (D := (dC, dI)) (ci := 12) (v := .int (nI C1)) (C := RX12) (T := TX12) (N := 163) (fs := fM (vS a (fT (fT (fT (fT vi 5 (nI C1)) 6 (nI R1)) 7 (nI 2)) 11 0) (fT vj 12 qd1))) hx hb hts iwsRX12_proves_in12 hown hK hP 0 rfl rfl 5 (by decide) (hts (.fieldLink RX12 396 "OptimaWorksModel" "columns" "I") (by decide +kernel)) (fun _ h9 => h9) rfl dX12_proves_30 ?_
    have hFc := allFree hD hS hA
    refine va_calli (va_runV (As := [.int (nI (R1 + 1)), .int (nI C1)]) (rest := [.ref h0]) ⟨hx, hb, hml, hown, hts⟩ (r_X12_at l dC dI a k h0 (fT (fT (fT (fT vi 5 (nI C1)) 6 (nI R1)) 7 (nI 2)) 11 0) (fT vj 12 qd1) (fT (fT (fT (fT (fT (fT (fT vF 74 f741) 0 g18) 4 f41) 6 f61) 2 f2w1) 3 f3w1) 5 f51) (fT (fT (fT vG 1 gs18) 7 F1) 8 L81) (R1 + 1) C1 C1 (by first | with_reducible assumption | decide | omega | rfl | assumption) H.size) (cwV 2 hts gwsRX12_proves_2 rfl rfl rfl hd_yX12_at_RX12 (by decide +kernel)) (fz_pre (va_recv hK hP (ci := 12) (q0 := 0) rfl rfl) hP hK hD) rfl rfl hl.1 rfl (lv_room (Nat.le_of_ble_eq_true rfl)) dX12_proves_33 (by decide +kernel)) hS (fun q _ h => hFc q h) hFc (fun r33 u t9_ H locs ht hvm hw9 hB9 hz1 hk1 hS => ?_)
    have hP : va_P (dC, dI) vwCl (WR a k h0 (fT (fT (fT (fT vi 5 (nI C1)) 6 (nI R1)) 7 (nI 2)) 11 0) (fT vj 12 qd1) (fT (fT (fT (fT (fT (fT (fT vF 74 f741) 0 g18) 4 f41) 6 f61) 2 f2w1) 3 f3w1) 5 f51) (fT (fT (fT vG 1 gs18) 7 F1) 8 L81)) H := fz_P ht hB9.1
    have hD : va_D A (WR a k h0 (fT (fT (fT (fT vi 5 (nI C1)) 6 (nI R1)) 7 (nI 2)) 11 0) (fT vj 12 qd1) (fT (fT (fT (fT (fT (fT (fT vF 74 f741) 0 g18) 4 f41) 6 f61) 2 f2w1) 3 f3w1) 5 f51) (fT (fT (fT vG 1 gs18) 7 F1) 8 L81)) := hB9.2.weaken (fun _ q _ h => hFc q.1 h)
    obtain rfl := hw9
    refine lv_sipush (v := 1048) hx hb dX12_proves_36 (by decide) ?_
    refine lv_sipush (v := 1046) hx hb dX12_proves_39 (by decide) ?_
    refine lv_sipush (v := 1047) hx hb dX12_proves_42 (by decide) ?_
    have hFc := allFree hD hS hA
    refine va_calli (va_runV (As := [.int (nI (30 + (R1 + 1) * (C1 + 1) + C1)), .int 1048, .int 1046, .int 1047]) (rest := []) ⟨hx, hb, hml, hown, hts⟩ (r_X12_against l dC dI a k h0 (fT (fT (fT (fT vi 5 (nI C1)) 6 (nI R1)) 7 (nI 2)) 11 0) (fT vj 12 qd1) (fT (fT (fT (fT (fT (fT (fT vF 74 f741) 0 g18) 4 f41) 6 f61) 2 f2w1) 3 f3w1) 5 f51) (fT (fT (fT vG 1 gs18) 7 F1) 8 L81) (30 + (R1 + 1) * (C1 + 1) + C1) 1048 1046 1047 (fT m21 1048 ((m21 20) * (m21 1045))) f18_0 (m21 (30 + (R1 + 1) * (C1 + 1) + C1)) ((m21 20) * (m21 1045)) (mg 1046) (mg 1047) (by rw [fT_ne _ _ (by omega)]) (by rw [fT_eq]) (by rw [fT_ne _ _ (by omega), f1_7 _ (by omega) (by omega)]) (by rw [fT_ne _ _ (by omega), f1_7 _ (by omega) (by omega)]) (by first | with_reducible assumption | decide | omega | rfl | assumption) (by first | with_reducible assumption | decide | omega | rfl | assumption) (by first | with_reducible assumption | decide | omega | rfl | assumption) (by first | with_reducible assumption | decide | omega | rfl | assumption) (by first | with_reducible assumption | decide | omega | rfl | assumption) (by rw [hgo]; rcases hPr with ⟨h1, h2, h3⟩ | ⟨h2, h3⟩; (exact mulpN (f1_4 (R1 + 1) (by omega)) h3 (by decide)); (exact mulpN (f1_4 (R1 + 1) (by omega)) h3 (by decide))) (by rw [h20]; rcases hPr with ⟨h1, h2, h3⟩ | ⟨h2, h3⟩; (rw [f1_6.2.2 h1, Int.mul_one]; exact mulpN h2 f1_2.2 (by decide)); (exact mulpN h2 (mulp (c := 325) f1_2.2 f1_6.2.1 (by decide)) (by decide))) H.size) (cwV 4 hts gwsRX12_proves_3 rfl rfl rfl hd_yX12_against_RX12 (by decide +kernel)) (fz_pre (va_recv hK hP (ci := 12) (q0 := 0) rfl rfl) hP hK hD) rfl rfl hl.1 rfl (lv_room (Nat.le_of_ble_eq_true rfl)) dX12_proves_45 (by decide +kernel)) hS (fun q _ h => hFc q h) hFc (fun r45 u t9_ H locs ht hvm hw9 hB9 hz1 hk1 hS => ?_)
    revert u
    refine fz_p3 ?_
    intro g45 gs45 m245 hw9 hB9
    try dsimp only at hw9 hB9
    have hP : va_P (dC, dI) vwCl (WR a k h0 (fT (fT (fT (fT vi 5 (nI C1)) 6 (nI R1)) 7 (nI 2)) 11 0) (fT vj 12 qd1) (fT (fT (fT (fT (fT (fT (fT (fT vF 74 f741) 0 g18) 4 f41) 6 f61) 2 f2w1) 3 f3w1) 5 f51) 0 g45) (fT (fT (fT (fT vG 1 gs18) 7 F1) 8 L81) 1 gs45)) H := fz_P ht hB9.1
    have hD : va_D A (WR a k h0 (fT (fT (fT (fT vi 5 (nI C1)) 6 (nI R1)) 7 (nI 2)) 11 0) (fT vj 12 qd1) (fT (fT (fT (fT (fT (fT (fT (fT vF 74 f741) 0 g18) 4 f41) 6 f61) 2 f2w1) 3 f3w1) 5 f51) 0 g45) (fT (fT (fT (fT vG 1 gs18) 7 F1) 8 L81) 1 gs45)) := hB9.2.weaken (fun _ q _ h => hFc q.1 h)
    have e9 : fT (fT (fT (fT (fT (fT (fT vF 74 f741) 0 g45) 4 f41) 6 f61) 2 f2w1) 3 f3w1) 5 f51 = fT (fT (fT (fT (fT (fT (fT (fT vF 74 f741) 0 g18) 4 f41) 6 f61) 2 f2w1) 3 f3w1) 5 f51) 0 g45 := ((fT_sw _ _ _ (Nat.ne_of_beq_eq_false rfl)).trans (congrArg (fun g9 => fT g9 5 f51) ((fT_sw _ _ _ (Nat.ne_of_beq_eq_false rfl)).trans (congrArg (fun g9 => fT g9 3 f3w1) ((fT_sw _ _ _ (Nat.ne_of_beq_eq_false rfl)).trans (congrArg (fun g9 => fT g9 2 f2w1) ((fT_sw _ _ _ (Nat.ne_of_beq_eq_false rfl)).trans (congrArg (fun g9 => fT g9 6 f61) ((fT_sw _ _ _ (Nat.ne_of_beq_eq_false rfl)).trans (congrArg (fun g9 => fT g9 4 f41) (fT_sm _ _ _ _))))))))))).symm
    rw [← e9] at hP hD
    clear e9
    have e9 : fT (fT (fT vG 1 gs45) 7 F1) 8 L81 = fT (fT (fT (fT vG 1 gs18) 7 F1) 8 L81) 1 gs45 := ((fT_sw _ _ _ (Nat.ne_of_beq_eq_false rfl)).trans (congrArg (fun g9 => fT g9 8 L81) ((fT_sw _ _ _ (Nat.ne_of_beq_eq_false rfl)).trans (congrArg (fun g9 => fT g9 7 F1) (fT_sm _ _ _ _))))).symm
    rw [← e9] at hP hD
    clear e9
    have hP : va_P (dC, dI) vwCl (WR a k h0 (fT (fT (fT (fT vi 5 (nI C1)) 6 (nI R1)) 7 (nI 2)) 11 0) (fT vj 12 qd1) (fT (fT (fT (fT (fT (fT (fT vF 74 f741) 0 g45) 4 f41) 6 f61) 2 f2w1) 3 f3w1) 5 f51) (fT (fT (fT vG 1 gs45) 7 F1) 8 L81)) H := hP
    have hD : va_D A (WR a k h0 (fT (fT (fT (fT vi 5 (nI C1)) 6 (nI R1)) 7 (nI 2)) 11 0) (fT vj 12 qd1) (fT (fT (fT (fT (fT (fT (fT vF 74 f741) 0 g45) 4 f41) 6 f61) 2 f2w1) 3 f3w1) 5 f51) (fT (fT (fT vG 1 gs45) 7 F1) 8 L81)) := hD
    revert hw9
    refine fz_a3 ?_
    intro f45_0 f45_1 f45_2
    refine lv_if_lt (tgt := 55) hx hb dX12_proves_48 (by decide) (fun c_48 => ?_) (fun c_48 => ?_)
    · have t_48 : (r45).toInt < 0 := toI_lt c_48 rfl (by decide)
      refine lv_iconst (v := 0) hx hb dX12_proves_55 (by decide) ?_
      refine W.widen (k := 0) (n := 0) (by decide +kernel) (by decide +kernel) ?_
      exact W.zret (v := 0) hx hb hr rfl (fun t9_ ht hW => ⟨⟨0, (g45, f2w1, f3w1, f41, f51, f61, f741, gs45, F1, L81, qd1, m245, (nI C1), (nI R1), (nI 2)), rfl, by (try dsimp only); exact ⟨f45_0, Or.inl rfl, fun q h1 h2 h3 => by (rw [f45_2 _ (by omega), fT_ne _ _ (by omega), f1_7 _ (by omega) (by omega)])⟩, by rw [ht]; exact hP, hD⟩, hS.F ht⟩) hS.2.2 dX12_proves_56
    · have t_48 : ¬ (r45).toInt < 0 := toI_nlt c_48 rfl (by decide)
      refine lv_iconst (v := 1) hx hb dX12_proves_51 (by decide) ?_
      refine lv_goto (tgt := 56) hx hb dX12_proves_52 (by decide) ?_
      refine W.widen (k := 0) (n := 0) (by decide +kernel) (by decide +kernel) ?_
      exact W.zret (v := 1) hx hb hr rfl (fun t9_ ht hW => ⟨⟨1, (g45, f2w1, f3w1, f41, f51, f61, f741, gs45, F1, L81, qd1, m245, (nI C1), (nI R1), (nI 2)), rfl, by (try dsimp only); exact ⟨f45_0, Or.inr rfl, fun q h1 h2 h3 => by (rw [f45_2 _ (by omega), fT_ne _ _ (by omega), f1_7 _ (by omega) (by omega)])⟩, by rw [ht]; exact hP, hD⟩, hS.F ht⟩) hS.2.2 dX12_proves_56
  · have t_4 : (r1).toInt = 0 := toI_nne c_4 rfl (by decide)
    refine lv_iconst (v := 0) hx hb dX12_proves_7 (by decide) ?_
    refine W.widen (k := 0) (n := 0) (by decide +kernel) (by decide +kernel) ?_
    exact W.zret (v := 0) hx hb hr rfl (fun t9_ ht hW => ⟨⟨0, (g1, f2w1, f3w1, f41, f51, f61, f741, gs1, F1, L81, qd1, m21, (nI C1), (nI R1), (nI 2)), rfl, by (try dsimp only); exact ⟨f1_0, Or.inl rfl, fun q h1 h2 h3 => by (rw [f1_7 _ (by omega) (by omega)])⟩, by rw [ht]; exact hP, hD⟩, hS.F ht⟩) hS.2.2 dX12_proves_8
theorem dX12_best1_0 : decode cX12_best1 0 = .ok (.aload_n 0, 1) := dk_42 (by decide +kernel)
theorem dX12_best1_1 : decode cX12_best1 1 = .ok (.sipush 1050, 3) := dk_17 (by decide +kernel)
theorem dX12_best1_4 : decode cX12_best1 4 = .ok (.lconst 0, 1) := dk_9 (by decide +kernel)
theorem dX12_best1_5 : decode cX12_best1 5 = .ok (.invokevirtual 369, 3) := dk_182 (by decide +kernel)
theorem dX12_best1_8 : decode cX12_best1 8 = .ok (.aload_n 0, 1) := dk_42 (by decide +kernel)
theorem dX12_best1_9 : decode cX12_best1 9 = .ok (.sipush 1051, 3) := dk_17 (by decide +kernel)
theorem dX12_best1_12 : decode cX12_best1 12 = .ok (.lconst 1, 1) := dk_10 (by decide +kernel)
theorem dX12_best1_13 : decode cX12_best1 13 = .ok (.invokevirtual 369, 3) := dk_182 (by decide +kernel)
theorem dX12_best1_16 : decode cX12_best1 16 = .ok (.aload_n 0, 1) := dk_42 (by decide +kernel)
theorem dX12_best1_17 : decode cX12_best1 17 = .ok (.sipush 1046, 3) := dk_17 (by decide +kernel)
theorem dX12_best1_20 : decode cX12_best1 20 = .ok (.lconst 0, 1) := dk_9 (by decide +kernel)
theorem dX12_best1_21 : decode cX12_best1 21 = .ok (.invokevirtual 369, 3) := dk_182 (by decide +kernel)
theorem dX12_best1_24 : decode cX12_best1 24 = .ok (.aload_n 0, 1) := dk_42 (by decide +kernel)
theorem dX12_best1_25 : decode cX12_best1 25 = .ok (.sipush 1047, 3) := dk_17 (by decide +kernel)
theorem dX12_best1_28 : decode cX12_best1 28 = .ok (.lconst 1, 1) := dk_10 (by decide +kernel)
theorem dX12_best1_29 : decode cX12_best1 29 = .ok (.invokevirtual 369, 3) := dk_182 (by decide +kernel)
theorem dX12_best1_32 : decode cX12_best1 32 = .ok (.aload_n 0, 1) := dk_42 (by decide +kernel)
theorem dX12_best1_33 : decode cX12_best1 33 = .ok (.getfield 805, 3) := dk_180 (by decide +kernel)
theorem dX12_best1_36 : decode cX12_best1 36 = .ok (.ifCond .ne 4, 3) := dk_154 (by decide +kernel)
theorem dX12_best1_39 : decode cX12_best1 39 = .ok (.return_, 1) := dk_177 (by decide +kernel)
theorem dX12_best1_40 : decode cX12_best1 40 = .ok (.aload_n 0, 1) := dk_42 (by decide +kernel)
theorem dX12_best1_41 : decode cX12_best1 41 = .ok (.sipush 1050, 3) := dk_17 (by decide +kernel)
theorem dX12_best1_44 : decode cX12_best1 44 = .ok (.sipush 1030, 3) := dk_17 (by decide +kernel)
theorem dX12_best1_47 : decode cX12_best1 47 = .ok (.invokevirtual 365, 3) := dk_182 (by decide +kernel)
theorem dX12_best1_50 : decode cX12_best1 50 = .ok (.aload_n 0, 1) := dk_42 (by decide +kernel)
theorem dX12_best1_51 : decode cX12_best1 51 = .ok (.sipush 1051, 3) := dk_17 (by decide +kernel)
theorem dX12_best1_54 : decode cX12_best1 54 = .ok (.sipush 1033, 3) := dk_17 (by decide +kernel)
theorem dX12_best1_57 : decode cX12_best1 57 = .ok (.invokevirtual 365, 3) := dk_182 (by decide +kernel)
theorem dX12_best1_60 : decode cX12_best1 60 = .ok (.aload_n 0, 1) := dk_42 (by decide +kernel)
theorem dX12_best1_61 : decode cX12_best1 61 = .ok (.getfield 218, 3) := dk_180 (by decide +kernel)
theorem dX12_best1_64 : decode cX12_best1 64 = .ok (.iconst 0, 1) := dk_3 (by decide +kernel)
theorem dX12_best1_65 : decode cX12_best1 65 = .ok (.iaload, 1) := dk_46 (by decide +kernel)
theorem dX12_best1_66 : decode cX12_best1 66 = .ok (.iconst 1, 1) := dk_4 (by decide +kernel)
theorem dX12_best1_67 : decode cX12_best1 67 = .ok (.if_icmp .ne 10, 3) := dk_160 (by decide +kernel)
theorem dX12_best1_70 : decode cX12_best1 70 = .ok (.aload_n 0, 1) := dk_42 (by decide +kernel)
theorem dX12_best1_71 : decode cX12_best1 71 = .ok (.sipush 1050, 3) := dk_17 (by decide +kernel)
theorem dX12_best1_74 : decode cX12_best1 74 = .ok (.invokevirtual 379, 3) := dk_182 (by decide +kernel)
theorem dX12_best1_77 : decode cX12_best1 77 = .ok (.aload_n 0, 1) := dk_42 (by decide +kernel)
theorem dX12_best1_78 : decode cX12_best1 78 = .ok (.bipush 10, 2) := dk_16 (by decide +kernel)
theorem dX12_best1_80 : decode cX12_best1 80 = .ok (.aload_n 0, 1) := dk_42 (by decide +kernel)
theorem dX12_best1_81 : decode cX12_best1 81 = .ok (.getfield 218, 3) := dk_180 (by decide +kernel)
theorem dX12_best1_84 : decode cX12_best1 84 = .ok (.iconst 0, 1) := dk_3 (by decide +kernel)
theorem dX12_best1_85 : decode cX12_best1 85 = .ok (.iaload, 1) := dk_46 (by decide +kernel)
theorem dX12_best1_86 : decode cX12_best1 86 = .ok (.iconst 1, 1) := dk_4 (by decide +kernel)
theorem dX12_best1_87 : decode cX12_best1 87 = .ok (.if_icmp .ne 14, 3) := dk_160 (by decide +kernel)
theorem dX12_best1_90 : decode cX12_best1 90 = .ok (.aload_n 0, 1) := dk_42 (by decide +kernel)
theorem dX12_best1_91 : decode cX12_best1 91 = .ok (.getfield 212, 3) := dk_180 (by decide +kernel)
theorem dX12_best1_94 : decode cX12_best1 94 = .ok (.iconst 0, 1) := dk_3 (by decide +kernel)
theorem dX12_best1_95 : decode cX12_best1 95 = .ok (.iaload, 1) := dk_46 (by decide +kernel)
theorem dX12_best1_96 : decode cX12_best1 96 = .ok (.ineg, 1) := dk_116 (by decide +kernel)
theorem dX12_best1_97 : decode cX12_best1 97 = .ok (.i2l, 1) := dk_133 (by decide +kernel)
theorem dX12_best1_98 : decode cX12_best1 98 = .ok (.goto 10, 3) := dk_167 (by decide +kernel)
theorem dX12_best1_101 : decode cX12_best1 101 = .ok (.aload_n 0, 1) := dk_42 (by decide +kernel)
theorem dX12_best1_102 : decode cX12_best1 102 = .ok (.getfield 212, 3) := dk_180 (by decide +kernel)
theorem dX12_best1_105 : decode cX12_best1 105 = .ok (.iconst 0, 1) := dk_3 (by decide +kernel)
theorem dX12_best1_106 : decode cX12_best1 106 = .ok (.iaload, 1) := dk_46 (by decide +kernel)
theorem dX12_best1_107 : decode cX12_best1 107 = .ok (.i2l, 1) := dk_133 (by decide +kernel)
theorem dX12_best1_108 : decode cX12_best1 108 = .ok (.invokevirtual 369, 3) := dk_182 (by decide +kernel)
theorem dX12_best1_111 : decode cX12_best1 111 = .ok (.aload_n 0, 1) := dk_42 (by decide +kernel)
theorem dX12_best1_112 : decode cX12_best1 112 = .ok (.bipush 11, 2) := dk_16 (by decide +kernel)
theorem dX12_best1_114 : decode cX12_best1 114 = .ok (.aload_n 0, 1) := dk_42 (by decide +kernel)
theorem dX12_best1_115 : decode cX12_best1 115 = .ok (.getfield 215, 3) := dk_180 (by decide +kernel)
theorem dX12_best1_118 : decode cX12_best1 118 = .ok (.iconst 0, 1) := dk_3 (by decide +kernel)
theorem dX12_best1_119 : decode cX12_best1 119 = .ok (.iaload, 1) := dk_46 (by decide +kernel)
theorem dX12_best1_120 : decode cX12_best1 120 = .ok (.i2l, 1) := dk_133 (by decide +kernel)
theorem dX12_best1_121 : decode cX12_best1 121 = .ok (.invokevirtual 369, 3) := dk_182 (by decide +kernel)
theorem dX12_best1_124 : decode cX12_best1 124 = .ok (.aload_n 0, 1) := dk_42 (by decide +kernel)
theorem dX12_best1_125 : decode cX12_best1 125 = .ok (.bipush 12, 2) := dk_16 (by decide +kernel)
theorem dX12_best1_127 : decode cX12_best1 127 = .ok (.sipush 1050, 3) := dk_17 (by decide +kernel)
theorem dX12_best1_130 : decode cX12_best1 130 = .ok (.bipush 11, 2) := dk_16 (by decide +kernel)
theorem dX12_best1_132 : decode cX12_best1 132 = .ok (.invokevirtual 390, 3) := dk_182 (by decide +kernel)
theorem dX12_best1_135 : decode cX12_best1 135 = .ok (.aload_n 0, 1) := dk_42 (by decide +kernel)
theorem dX12_best1_136 : decode cX12_best1 136 = .ok (.bipush 13, 2) := dk_16 (by decide +kernel)
theorem dX12_best1_138 : decode cX12_best1 138 = .ok (.bipush 10, 2) := dk_16 (by decide +kernel)
theorem dX12_best1_140 : decode cX12_best1 140 = .ok (.sipush 1051, 3) := dk_17 (by decide +kernel)
theorem dX12_best1_143 : decode cX12_best1 143 = .ok (.invokevirtual 390, 3) := dk_182 (by decide +kernel)
theorem dX12_best1_146 : decode cX12_best1 146 = .ok (.aload_n 0, 1) := dk_42 (by decide +kernel)
theorem dX12_best1_147 : decode cX12_best1 147 = .ok (.sipush 1046, 3) := dk_17 (by decide +kernel)
theorem dX12_best1_150 : decode cX12_best1 150 = .ok (.bipush 12, 2) := dk_16 (by decide +kernel)
theorem dX12_best1_152 : decode cX12_best1 152 = .ok (.bipush 13, 2) := dk_16 (by decide +kernel)
theorem dX12_best1_154 : decode cX12_best1 154 = .ok (.iconst (-1), 1) := dk_2 (by decide +kernel)
theorem dX12_best1_155 : decode cX12_best1 155 = .ok (.invokevirtual 443, 3) := dk_182 (by decide +kernel)
theorem dX12_best1_158 : decode cX12_best1 158 = .ok (.aload_n 0, 1) := dk_42 (by decide +kernel)
theorem dX12_best1_159 : decode cX12_best1 159 = .ok (.sipush 1047, 3) := dk_17 (by decide +kernel)
theorem dX12_best1_162 : decode cX12_best1 162 = .ok (.sipush 1051, 3) := dk_17 (by decide +kernel)
theorem dX12_best1_165 : decode cX12_best1 165 = .ok (.bipush 11, 2) := dk_16 (by decide +kernel)
theorem dX12_best1_167 : decode cX12_best1 167 = .ok (.invokevirtual 390, 3) := dk_182 (by decide +kernel)
theorem dX12_best1_170 : decode cX12_best1 170 = .ok (.aload_n 0, 1) := dk_42 (by decide +kernel)
theorem dX12_best1_171 : decode cX12_best1 171 = .ok (.sipush 1046, 3) := dk_17 (by decide +kernel)
theorem dX12_best1_174 : decode cX12_best1 174 = .ok (.sipush 1047, 3) := dk_17 (by decide +kernel)
theorem dX12_best1_177 : decode cX12_best1 177 = .ok (.invokevirtual 930, 3) := dk_182 (by decide +kernel)
theorem dX12_best1_180 : decode cX12_best1 180 = .ok (.aload_n 0, 1) := dk_42 (by decide +kernel)
theorem dX12_best1_181 : decode cX12_best1 181 = .ok (.sipush 1050, 3) := dk_17 (by decide +kernel)
theorem dX12_best1_184 : decode cX12_best1 184 = .ok (.sipush 1051, 3) := dk_17 (by decide +kernel)
theorem dX12_best1_187 : decode cX12_best1 187 = .ok (.invokevirtual 930, 3) := dk_182 (by decide +kernel)
theorem dX12_best1_190 : decode cX12_best1 190 = .ok (.return_, 1) := dk_177 (by decide +kernel)
def wsRX12_best1 : List Cond := .code yX12_best1 cX12_best1 1 none :: ([.fieldLink RX12 805 "OptimaWorksModel" "modelGoals" "I", .fieldLink RX12 218 "OptimaWorksModel" "goalMax" "[I", .fieldLink RX12 212 "OptimaWorksModel" "goalTop" "[I", .fieldLink RX12 215 "OptimaWorksModel" "goalUnder" "[I"] ++ wsX120 ++ (wsV RX12 369 RX12 yX12_put wsRX12_put) ++ (wsV RX12 365 RX12 yX12_copy wsRX12_copy) ++ (wsV RX12 379 RX12 yX12_turn wsRX12_turn) ++ (wsV RX12 390 RX12 yX12_times wsRX12_times) ++ (wsV RX12 443 RX12 yX12_add wsRX12_add) ++ (wsV RX12 930 RX12 yX12_shorten wsRX12_shorten))
theorem iwsRX12_best1_in12 : ∀ w ∈ wsX120, w ∈ wsRX12_best1 := fun _ h => List.mem_cons_of_mem _ (List.mem_append_left _ (List.mem_append_left _ (List.mem_append_left _ (List.mem_append_left _ (List.mem_append_left _ (List.mem_append_left _ (List.mem_append_right _ h)))))))
theorem gwsRX12_best1_0 : GoodIn wsRX12_best1 (wsV RX12 369 RX12 yX12_put wsRX12_put) := goodIn_sub (fun _ h => List.mem_cons_of_mem _ (List.mem_append_left _ (List.mem_append_left _ (List.mem_append_left _ (List.mem_append_left _ (List.mem_append_left _ (List.mem_append_right _ h))))))) (gdV (by decide +kernel) gdwsRX12_put)
theorem gwsRX12_best1_1 : GoodIn wsRX12_best1 (wsV RX12 365 RX12 yX12_copy wsRX12_copy) := goodIn_sub (fun _ h => List.mem_cons_of_mem _ (List.mem_append_left _ (List.mem_append_left _ (List.mem_append_left _ (List.mem_append_left _ (List.mem_append_right _ h)))))) (gdV (by decide +kernel) gdwsRX12_copy)
theorem gwsRX12_best1_2 : GoodIn wsRX12_best1 (wsV RX12 379 RX12 yX12_turn wsRX12_turn) := goodIn_sub (fun _ h => List.mem_cons_of_mem _ (List.mem_append_left _ (List.mem_append_left _ (List.mem_append_left _ (List.mem_append_right _ h))))) (gdV (by decide +kernel) gdwsRX12_turn)
theorem gwsRX12_best1_3 : GoodIn wsRX12_best1 (wsV RX12 390 RX12 yX12_times wsRX12_times) := goodIn_sub (fun _ h => List.mem_cons_of_mem _ (List.mem_append_left _ (List.mem_append_left _ (List.mem_append_right _ h)))) (gdV (by decide +kernel) gdwsRX12_times)
theorem gwsRX12_best1_4 : GoodIn wsRX12_best1 (wsV RX12 443 RX12 yX12_add wsRX12_add) := goodIn_sub (fun _ h => List.mem_cons_of_mem _ (List.mem_append_left _ (List.mem_append_right _ h))) (gdV (by decide +kernel) gdwsRX12_add)
theorem gwsRX12_best1_5 : GoodIn wsRX12_best1 (wsV RX12 930 RX12 yX12_shorten wsRX12_shorten) := goodIn_sub (fun _ h => List.mem_cons_of_mem _ (List.mem_append_right _ h)) (gdV (by decide +kernel) gdwsRX12_shorten)
theorem gdwsRX12_best1 : wsRX12_best1.all goodWord = true := gdC rfl (gdA (gdA (gdA (gdA (gdA (gdA (gdA (by decide +kernel : ([.fieldLink RX12 805 "OptimaWorksModel" "modelGoals" "I", .fieldLink RX12 218 "OptimaWorksModel" "goalMax" "[I", .fieldLink RX12 212 "OptimaWorksModel" "goalTop" "[I", .fieldLink RX12 215 "OptimaWorksModel" "goalUnder" "[I"] : List Cond).all goodWord = true) gdwsX120) (gdV (by decide +kernel) gdwsRX12_put)) (gdV (by decide +kernel) gdwsRX12_copy)) (gdV (by decide +kernel) gdwsRX12_turn)) (gdV (by decide +kernel) gdwsRX12_times)) (gdV (by decide +kernel) gdwsRX12_add)) (gdV (by decide +kernel) gdwsRX12_shorten))
set_option maxHeartbeats 4000000 in
set_option maxRecDepth 100000 in
/-- best1() -/
theorem r_X12_best1 (l : Launch) (dC : Nat → ClassId) (dI : Nat → Nat → Nat) (a : Nat → Nat) (k : Nat → ClassId) (h0 : Nat) (vi : Nat → Int32) (vj : Nat → Int64) (vF : Nat → Nat → Int32) (vG : Nat → Nat → Int64) (vn : Nat) (gq : Nat) (mg : Nat → Int) (hBg : Bg (vF 0) mg) (hmg : vi 93 = nI gq) (hgq : gq ≤ 3) (hM : MdlB vF gq) (h1 : ((mg 1030).natAbs < 2 ^ 209 ∧ (mg 1033).natAbs < 2 ^ 187 ∧ (0 < gq → 0 < mg 1033))) (sz : Nat) : Met l yX12_best1 wsRX12_best1 ({ frames := 4, cells := 0, slots := 0, locals := 107 }) (va_Pc [.ref h0] (fun U => U.heap.size = sz ∧ va_P (dC, dI) vwCl (WR a k h0 vi vj vF vG) U.heap ∧ va_K (dC, dI) vwCl (tX12 k) U ∧ va_D (fun _ => True) (WR a k h0 vi vj vF vG))) (va_Qv (fun (u : (Nat → Int32) × (Nat → Int32) × (Nat → Int32) × (Nat → Int64) × (Nat → Int)) => (Bg (u.1) (u.2.2.2.2)) ∧ (Sz 224 ((u.2.2.2.2) 1046) ∧ Sz 201 ((u.2.2.2.2) 1047)) ∧ (0 < (u.2.2.2.2) 1051) ∧ (∀ q, 1000 ≤ q → q ≠ 1046 → q ≠ 1047 → q ≠ 1050 → q ≠ 1051 → (u.2.2.2.2) q = mg q)) (fun (u : (Nat → Int32) × (Nat → Int32) × (Nat → Int32) × (Nat → Int64) × (Nat → Int)) t => va_P (dC, dI) vwCl (WR a k h0 vi vj (fT (fT (fT vF 0 (u.1)) 2 (u.2.1)) 3 (u.2.2.1)) (fT vG 1 (u.2.2.2.1))) t.heap ∧ va_D (va_A (WR a k h0 vi vj vF vG) sz) (WR a k h0 vi vj (fT (fT (fT vF 0 (u.1)) 2 (u.2.1)) 3 (u.2.2.1)) (fT vG 1 (u.2.2.2.1)))) (va_A (WR a k h0 vi vj vF vG) sz)) 0 0 (va_A (WR a k h0 vi vj vF vG) sz) := by
  refine Met.ofW (cc := cX12_best1) (maxL := 1) (ret := none) (by decide) rfl ?_
  intro p e s m args below meth c s₁ B hml hv
  obtain ⟨rfl, hsz, hP, hK, hD0⟩ := hv
  have hx := B.exec
  have hb := B.bytes
  have hr := B.returns
  have hts := atoms_spec (ws := wsRX12_best1) B.pre
  have hown : s.vm.findClass RX12 = some m.cls := findClass_of_methodNamed B.named
  have hlocks := B.notSynchronized
  subst hsz
  have hD := hD0.self (sz := s.heap.size)
  generalize hAe : va_A (WR a k h0 vi vj vF vG) s.heap.size = A at hD ⊢
  have hA : ∀ q : Nat, s.heap.size ≤ q → A q := fun q h => by rw [← hAe]; exact Or.inr h
  have hS : va_S A s.heap s.heap [] := va_S.rf
  have hl := lv_entry ([.ref h0]) (n := 1) (Nat.le_of_ble_eq_true rfl)
  rw [lg_entry_eq]
  generalize (lg_sl ([.ref h0]) ++ List.replicate (1 - (lg_sl ([.ref h0])).length) Slot.unset).toArray = ls at hl ⊢
  have hl : lv_has ls 1 [(0, .ref h0)] := hl
  refine lv_aload_n hx hb dX12_best1_0 rfl (lv_at hl 0 rfl) ?_
  refine lv_sipush (v := 1050) hx hb dX12_best1_1 (by decide) ?_
  refine lv_lconst (v := 0) hx hb dX12_best1_4 (by decide) ?_
  have hFc := allFree hD hS hA
  refine va_callv (va_runV (As := [.int 1050, .long 0]) (rest := []) ⟨hx, hb, hml, hown, hts⟩ (b_X12_put l dC dI a k h0 vi vj vF vG 1050 0 0 mg hBg (by first | with_reducible assumption | decide | omega | rfl | assumption) (by decide) (by first | with_reducible assumption | decide | omega | rfl | assumption) s.heap.size) (cwV 2 hts gwsRX12_best1_0 rfl rfl rfl hd_yX12_put_RX12 (by decide +kernel)) (fz_pre (va_recv hK hP (ci := 12) (q0 := 0) rfl rfl) hP hK hD) rfl rfl hl.1 rfl (lv_room (Nat.le_of_ble_eq_true rfl)) dX12_best1_5 (by decide +kernel)) hS (fun q _ h => hFc q h) hFc (fun g5 t9_ H locs ht hvm hw9 hB9 hz1 hk1 hS => ?_)
  have hP : va_P (dC, dI) vwCl (WR a k h0 vi vj (fT vF 0 g5) vG) H := fz_P ht hB9.1
  have hD : va_D A (WR a k h0 vi vj (fT vF 0 g5) vG) := hB9.2.weaken (fun _ q _ h => hFc q.1 h)
  have f5_0 := hw9
  try dsimp only at f5_0
  refine lv_aload_n hx hb dX12_best1_8 rfl (lv_at hl 0 rfl) ?_
  refine lv_sipush (v := 1051) hx hb dX12_best1_9 (by decide) ?_
  refine lv_lconst (v := 1) hx hb dX12_best1_12 (by decide) ?_
  have hFc := allFree hD hS hA
  refine va_callv (va_runV (As := [.int 1051, .long 1]) (rest := []) ⟨hx, hb, hml, hown, hts⟩ (b_X12_put l dC dI a k h0 vi vj (fT vF 0 g5) vG 1051 1 1 (fT mg 1050 0) f5_0 (by first | with_reducible assumption | decide | omega | rfl | assumption) (by decide) (by first | with_reducible assumption | decide | omega | rfl | assumption) H.size) (cwV 2 hts gwsRX12_best1_0 rfl rfl rfl hd_yX12_put_RX12 (by decide +kernel)) (fz_pre (va_recv hK hP (ci := 12) (q0 := 0) rfl rfl) hP hK hD) rfl rfl hl.1 rfl (lv_room (Nat.le_of_ble_eq_true rfl)) dX12_best1_13 (by decide +kernel)) hS (fun q _ h => hFc q h) hFc (fun g13 t9_ H locs ht hvm hw9 hB9 hz1 hk1 hS => ?_)
  have hP : va_P (dC, dI) vwCl (WR a k h0 vi vj (fT (fT vF 0 g5) 0 g13) vG) H := fz_P ht hB9.1
  have hD : va_D A (WR a k h0 vi vj (fT (fT vF 0 g5) 0 g13) vG) := hB9.2.weaken (fun _ q _ h => hFc q.1 h)
  have e9 : fT vF 0 g13 = fT (fT vF 0 g5) 0 g13 := (fT_sm _ _ _ _).symm
  rw [← e9] at hP hD
  clear e9
  have hP : va_P (dC, dI) vwCl (WR a k h0 vi vj (fT vF 0 g13) vG) H := hP
  have hD : va_D A (WR a k h0 vi vj (fT vF 0 g13) vG) := hD
  have f13_0 := hw9
  try dsimp only at f13_0
  refine lv_aload_n hx hb dX12_best1_16 rfl (lv_at hl 0 rfl) ?_
  refine lv_sipush (v := 1046) hx hb dX12_best1_17 (by decide) ?_
  refine lv_lconst (v := 0) hx hb dX12_best1_20 (by decide) ?_
  have hFc := allFree hD hS hA
  refine va_callv (va_runV (As := [.int 1046, .long 0]) (rest := []) ⟨hx, hb, hml, hown, hts⟩ (b_X12_put l dC dI a k h0 vi vj (fT vF 0 g13) vG 1046 0 0 (fT (fT mg 1050 0) 1051 1) f13_0 (by first | with_reducible assumption | decide | omega | rfl | assumption) (by decide) (by first | with_reducible assumption | decide | omega | rfl | assumption) H.size) (cwV 2 hts gwsRX12_best1_0 rfl rfl rfl hd_yX12_put_RX12 (by decide +kernel)) (fz_pre (va_recv hK hP (ci := 12) (q0 := 0) rfl rfl) hP hK hD) rfl rfl hl.1 rfl (lv_room (Nat.le_of_ble_eq_true rfl)) dX12_best1_21 (by decide +kernel)) hS (fun q _ h => hFc q h) hFc (fun g21 t9_ H locs ht hvm hw9 hB9 hz1 hk1 hS => ?_)
  have hP : va_P (dC, dI) vwCl (WR a k h0 vi vj (fT (fT vF 0 g13) 0 g21) vG) H := fz_P ht hB9.1
  have hD : va_D A (WR a k h0 vi vj (fT (fT vF 0 g13) 0 g21) vG) := hB9.2.weaken (fun _ q _ h => hFc q.1 h)
  have e9 : fT vF 0 g21 = fT (fT vF 0 g13) 0 g21 := (fT_sm _ _ _ _).symm
  rw [← e9] at hP hD
  clear e9
  have hP : va_P (dC, dI) vwCl (WR a k h0 vi vj (fT vF 0 g21) vG) H := hP
  have hD : va_D A (WR a k h0 vi vj (fT vF 0 g21) vG) := hD
  have f21_0 := hw9
  try dsimp only at f21_0
  refine lv_aload_n hx hb dX12_best1_24 rfl (lv_at hl 0 rfl) ?_
  refine lv_sipush (v := 1047) hx hb dX12_best1_25 (by decide) ?_
  refine lv_lconst (v := 1) hx hb dX12_best1_28 (by decide) ?_
  have hFc := allFree hD hS hA
  refine va_callv (va_runV (As := [.int 1047, .long 1]) (rest := []) ⟨hx, hb, hml, hown, hts⟩ (b_X12_put l dC dI a k h0 vi vj (fT vF 0 g21) vG 1047 1 1 (fT (fT (fT mg 1050 0) 1051 1) 1046 0) f21_0 (by first | with_reducible assumption | decide | omega | rfl | assumption) (by decide) (by first | with_reducible assumption | decide | omega | rfl | assumption) H.size) (cwV 2 hts gwsRX12_best1_0 rfl rfl rfl hd_yX12_put_RX12 (by decide +kernel)) (fz_pre (va_recv hK hP (ci := 12) (q0 := 0) rfl rfl) hP hK hD) rfl rfl hl.1 rfl (lv_room (Nat.le_of_ble_eq_true rfl)) dX12_best1_29 (by decide +kernel)) hS (fun q _ h => hFc q h) hFc (fun g29 t9_ H locs ht hvm hw9 hB9 hz1 hk1 hS => ?_)
  have hP : va_P (dC, dI) vwCl (WR a k h0 vi vj (fT (fT vF 0 g21) 0 g29) vG) H := fz_P ht hB9.1
  have hD : va_D A (WR a k h0 vi vj (fT (fT vF 0 g21) 0 g29) vG) := hB9.2.weaken (fun _ q _ h => hFc q.1 h)
  have e9 : fT vF 0 g29 = fT (fT vF 0 g21) 0 g29 := (fT_sm _ _ _ _).symm
  rw [← e9] at hP hD
  clear e9
  have hP : va_P (dC, dI) vwCl (WR a k h0 vi vj (fT vF 0 g29) vG) H := hP
  have hD : va_D A (WR a k h0 vi vj (fT vF 0 g29) vG) := hD
  have f29_0 := hw9
  try dsimp only at f29_0
  refine lv_aload_n hx hb dX12_best1_32 rfl (lv_at hl 0 rfl) ?_
  refine va_get (D := (dC, dI)) (ci := 12) (v := .int (vi 93)) (C := RX12) (T := TX12) (N := 163) (fs := fM (vS a vi vj)) hx hb hts iwsRX12_best1_in12 hown hK hP 0 rfl rfl 93 (by decide) (hts (.fieldLink RX12 805 "OptimaWorksModel" "modelGoals" "I") (by decide +kernel)) (fun _ h9 => h9) rfl dX12_best1_33 ?_
  refine lv_topi (fun y1 hy1 => ?_)
  obtain rfl : (nI gq) = y1 := (hy1.trans (hmg)).symm
  refine lv_if_ne (tgt := 40) hx hb dX12_best1_36 (by decide) (fun c_36 => ?_) (fun c_36 => ?_)
  · have t_36 : ((gq : Nat) : Int) ≠ 0 := toI_ne c_36 (nI_toInt (by omega)) (by decide)
    have hg0 : 0 < gq := by omega
    obtain ⟨h1a, h1b, h1c⟩ := h1
    have bt := hM.top hg0 (k := 0) (by omega)
    have bu := hM.under hg0 (k := 0) (by omega)
    rw [if_pos rfl] at bt bu
    have hp33 := h1c hg0
    simp only [Nat.mul_zero, Nat.add_zero] at bt bu
    refine lv_aload_n hx hb dX12_best1_40 rfl (lv_at hl 0 rfl) ?_
    refine lv_sipush (v := 1050) hx hb dX12_best1_41 (by decide) ?_
    refine lv_sipush (v := 1030) hx hb dX12_best1_44 (by decide) ?_
    have hFc := allFree hD hS hA
    refine va_callv (va_runV (As := [.int 1050, .int 1030]) (rest := []) ⟨hx, hb, hml, hown, hts⟩ (b_X12_copy l dC dI a k h0 vi vj (fT vF 0 g29) vG 1050 1030 (fT (fT (fT (fT mg 1050 0) 1051 1) 1046 0) 1047 1) f29_0 (mg 1030) (by rw [fT_ne _ _ (by omega), fT_ne _ _ (by omega), fT_ne _ _ (by omega), fT_ne _ _ (by omega)]) (by first | with_reducible assumption | decide | omega | rfl | assumption) (by first | with_reducible assumption | decide | omega | rfl | assumption) (by first | with_reducible assumption | decide | omega | rfl | assumption) H.size) (cwV 2 hts gwsRX12_best1_1 rfl rfl rfl hd_yX12_copy_RX12 (by decide +kernel)) (fz_pre (va_recv hK hP (ci := 12) (q0 := 0) rfl rfl) hP hK hD) rfl rfl hl.1 rfl (lv_room (Nat.le_of_ble_eq_true rfl)) dX12_best1_47 (by decide +kernel)) hS (fun q _ h => hFc q h) hFc (fun g47 t9_ H locs ht hvm hw9 hB9 hz1 hk1 hS => ?_)
    have hP : va_P (dC, dI) vwCl (WR a k h0 vi vj (fT (fT vF 0 g29) 0 g47) vG) H := fz_P ht hB9.1
    have hD : va_D A (WR a k h0 vi vj (fT (fT vF 0 g29) 0 g47) vG) := hB9.2.weaken (fun _ q _ h => hFc q.1 h)
    have e9 : fT vF 0 g47 = fT (fT vF 0 g29) 0 g47 := (fT_sm _ _ _ _).symm
    rw [← e9] at hP hD
    clear e9
    have hP : va_P (dC, dI) vwCl (WR a k h0 vi vj (fT vF 0 g47) vG) H := hP
    have hD : va_D A (WR a k h0 vi vj (fT vF 0 g47) vG) := hD
    have f47_0 := hw9
    try dsimp only at f47_0
    refine lv_aload_n hx hb dX12_best1_50 rfl (lv_at hl 0 rfl) ?_
    refine lv_sipush (v := 1051) hx hb dX12_best1_51 (by decide) ?_
    refine lv_sipush (v := 1033) hx hb dX12_best1_54 (by decide) ?_
    have hFc := allFree hD hS hA
    refine va_callv (va_runV (As := [.int 1051, .int 1033]) (rest := []) ⟨hx, hb, hml, hown, hts⟩ (b_X12_copy l dC dI a k h0 vi vj (fT vF 0 g47) vG 1051 1033 (fT (fT (fT (fT (fT mg 1050 0) 1051 1) 1046 0) 1047 1) 1050 (mg 1030)) f47_0 (mg 1033) (by rw [fT_ne _ _ (by omega), fT_ne _ _ (by omega), fT_ne _ _ (by omega), fT_ne _ _ (by omega), fT_ne _ _ (by omega)]) (by first | with_reducible assumption | decide | omega | rfl | assumption) (by first | with_reducible assumption | decide | omega | rfl | assumption) (by first | with_reducible assumption | decide | omega | rfl | assumption) H.size) (cwV 2 hts gwsRX12_best1_1 rfl rfl rfl hd_yX12_copy_RX12 (by decide +kernel)) (fz_pre (va_recv hK hP (ci := 12) (q0 := 0) rfl rfl) hP hK hD) rfl rfl hl.1 rfl (lv_room (Nat.le_of_ble_eq_true rfl)) dX12_best1_57 (by decide +kernel)) hS (fun q _ h => hFc q h) hFc (fun g57 t9_ H locs ht hvm hw9 hB9 hz1 hk1 hS => ?_)
    have hP : va_P (dC, dI) vwCl (WR a k h0 vi vj (fT (fT vF 0 g47) 0 g57) vG) H := fz_P ht hB9.1
    have hD : va_D A (WR a k h0 vi vj (fT (fT vF 0 g47) 0 g57) vG) := hB9.2.weaken (fun _ q _ h => hFc q.1 h)
    have e9 : fT vF 0 g57 = fT (fT vF 0 g47) 0 g57 := (fT_sm _ _ _ _).symm
    rw [← e9] at hP hD
    clear e9
    have hP : va_P (dC, dI) vwCl (WR a k h0 vi vj (fT vF 0 g57) vG) H := hP
    have hD : va_D A (WR a k h0 vi vj (fT vF 0 g57) vG) := hD
    have f57_0 := hw9
    try dsimp only at f57_0
    refine lv_aload_n hx hb dX12_best1_60 rfl (lv_at hl 0 rfl) ?_
    refine va_get (D := (dC, dI)) (ci := 12) (v := .ref (a 65)) (C := RX12) (T := TX12) (N := 163) (fs := fM (vS a vi vj)) hx hb hts iwsRX12_best1_in12 hown hK hP 0 rfl rfl 105 (by decide) (hts (.fieldLink RX12 218 "OptimaWorksModel" "goalMax" "[I") (by decide +kernel)) (fun _ h9 => h9) rfl dX12_best1_61 ?_
    refine lv_iconst (v := 0) hx hb dX12_best1_64 (by decide) ?_
    refine va_iald (cA := k 65) (n := 3) (f := (vF 65)) hx hb hK hP 66 65 (WR_get 65 (by decide)) (TR_get 65 (by decide)) (show ¬ ((0 : Int32) < 0 ∨ 3 ≤ (0 : Int32).toNatClampNeg) by decide) dX12_best1_65 ?_
    refine lv_topi (fun y2 hy2 => ?_)
    obtain rfl : ((vF 65) 0) = y2 := (hy2.trans (rfl)).symm
    refine lv_iconst (v := 1) hx hb dX12_best1_66 (by decide) ?_
    refine W.cut (pc := 77) (fun H locs ls stk => ∃ (gB : Nat → Int32) (mB : Nat → Int) (x50 : Int), (Bg gB mB) ∧ (mB 1050 = x50) ∧ (x50.natAbs < 2 ^ 209) ∧ (mB 1051 = mg 1033) ∧ (∀ q, (q < 1046 ∨ (1047 < q ∧ q < 1050) ∨ 1051 < q) → mB q = mg q) ∧  stk = [] ∧ va_P (dC, dI) vwCl (WR a k h0 vi vj (fT vF 0 gB) vG) H ∧ va_D A (WR a k h0 vi vj (fT vF 0 gB) vG) ∧ va_S A s.heap H locs ∧ lv_has ls 1 [(0, .ref h0)]) (fun join1 => ?_) ?_
    · refine lv_icmp_ne (tgt := 77) hx hb dX12_best1_67 (by decide) (fun c_67 => ?_) (fun c_67 => ?_)
      · have t_67 : (((vF 65) 0)).toInt ≠ 1 := toI_ne c_67 rfl (by decide)
        have hl : lv_has _ _ ([(0, .ref h0)]) := lv_sub hl [0] rfl
        exact join1 _ _ _ _ ⟨g57, (fT (fT (fT (fT (fT (fT mg 1050 0) 1051 1) 1046 0) 1047 1) 1050 (mg 1030)) 1051 (mg 1033)), (mg 1030), f57_0, (by rw [fT_ne _ _ (by omega), fT_eq]), h1a, (by rw [fT_eq]), fun q hq => by (rw [fT_ne _ _ (by omega), fT_ne _ _ (by omega), fT_ne _ _ (by omega), fT_ne _ _ (by omega), fT_ne _ _ (by omega), fT_ne _ _ (by omega)]), rfl, hP, hD, hS, hl⟩
      · have t_67 : (((vF 65) 0)).toInt = 1 := toI_nne c_67 rfl (by decide)
        refine lv_aload_n hx hb dX12_best1_70 rfl (lv_at hl 0 rfl) ?_
        refine lv_sipush (v := 1050) hx hb dX12_best1_71 (by decide) ?_
        have hFc := allFree hD hS hA
        refine va_callv (va_runV (As := [.int 1050]) (rest := []) ⟨hx, hb, hml, hown, hts⟩ (b_X12_turn l dC dI a k h0 vi vj (fT vF 0 g57) vG 1050 (fT (fT (fT (fT (fT (fT mg 1050 0) 1051 1) 1046 0) 1047 1) 1050 (mg 1030)) 1051 (mg 1033)) f57_0 (mg 1030) (by rw [fT_ne _ _ (by omega), fT_eq]) (by first | with_reducible assumption | decide | omega | rfl | assumption) H.size) (cwV 1 hts gwsRX12_best1_2 rfl rfl rfl hd_yX12_turn_RX12 (by decide +kernel)) (fz_pre (va_recv hK hP (ci := 12) (q0 := 0) rfl rfl) hP hK hD) rfl rfl hl.1 rfl (lv_room (Nat.le_of_ble_eq_true rfl)) dX12_best1_74 (by decide +kernel)) hS (fun q _ h => hFc q h) hFc (fun u t9_ H locs ht hvm hw9 hB9 hz1 hk1 hS => ?_)
        have hP : va_P (dC, dI) vwCl (WR a k h0 vi vj (fT (fT vF 0 g57) 0 (upd g57 (nI (24 * 1050)).toNatClampNeg (-(g57 (24 * 1050))))) vG) H := fz_P ht hB9.1
        have hD : va_D A (WR a k h0 vi vj (fT (fT vF 0 g57) 0 (upd g57 (nI (24 * 1050)).toNatClampNeg (-(g57 (24 * 1050))))) vG) := hB9.2.weaken (fun _ q _ h => hFc q.1 h)
        have e9 : fT vF 0 (upd g57 (nI (24 * 1050)).toNatClampNeg (-(g57 (24 * 1050)))) = fT (fT vF 0 g57) 0 (upd g57 (nI (24 * 1050)).toNatClampNeg (-(g57 (24 * 1050)))) := (fT_sm _ _ _ _).symm
        rw [← e9] at hP hD
        clear e9
        have hP : va_P (dC, dI) vwCl (WR a k h0 vi vj (fT vF 0 (upd g57 (nI (24 * 1050)).toNatClampNeg (-(g57 (24 * 1050))))) vG) H := hP
        have hD : va_D A (WR a k h0 vi vj (fT vF 0 (upd g57 (nI (24 * 1050)).toNatClampNeg (-(g57 (24 * 1050))))) vG) := hD
        have f74_0 := hw9
        try dsimp only at f74_0
        have f74_0 : Bg (upd g57 (nI (24 * 1050)).toNatClampNeg (-(g57 (24 * 1050)))) (fT (fT (fT (fT (fT (fT (fT mg 1050 0) 1051 1) 1046 0) 1047 1) 1050 (mg 1030)) 1051 (mg 1033)) 1050 (-(mg 1030))) := f74_0
        have hl : lv_has _ _ ([(0, .ref h0)]) := lv_sub hl [0] rfl
        exact join1 _ _ _ _ ⟨(upd g57 (nI (24 * 1050)).toNatClampNeg (-(g57 (24 * 1050)))), (fT (fT (fT (fT (fT (fT (fT mg 1050 0) 1051 1) 1046 0) 1047 1) 1050 (mg 1030)) 1051 (mg 1033)) 1050 (-(mg 1030))), (-(mg 1030)), f74_0, (by rw [fT_eq]), by rw [Int.natAbs_neg]; exact h1a, (by rw [fT_ne _ _ (by omega), fT_eq]), fun q hq => by (rw [fT_ne _ _ (by omega), fT_ne _ _ (by omega), fT_ne _ _ (by omega), fT_ne _ _ (by omega), fT_ne _ _ (by omega), fT_ne _ _ (by omega), fT_ne _ _ (by omega)]), rfl, hP, hD, hS, hl⟩
    · rintro H locs ls stk ⟨gB, mB, x50, hBB, v_x50, h50, h51, hoB, rfl, hP, hD, hS, hl⟩
      refine lv_aload_n hx hb dX12_best1_77 rfl (lv_at hl 0 rfl) ?_
      refine lv_bipush (v := 10) hx hb dX12_best1_78 (by decide) ?_
      refine lv_aload_n hx hb dX12_best1_80 rfl (lv_at hl 0 rfl) ?_
      refine va_get (D := (dC, dI)) (ci := 12) (v := .ref (a 65)) (C := RX12) (T := TX12) (N := 163) (fs := fM (vS a vi vj)) hx hb hts iwsRX12_best1_in12 hown hK hP 0 rfl rfl 105 (by decide) (hts (.fieldLink RX12 218 "OptimaWorksModel" "goalMax" "[I") (by decide +kernel)) (fun _ h9 => h9) rfl dX12_best1_81 ?_
      refine lv_iconst (v := 0) hx hb dX12_best1_84 (by decide) ?_
      refine va_iald (cA := k 65) (n := 3) (f := (vF 65)) hx hb hK hP 66 65 (WR_get 65 (by decide)) (TR_get 65 (by decide)) (show ¬ ((0 : Int32) < 0 ∨ 3 ≤ (0 : Int32).toNatClampNeg) by decide) dX12_best1_85 ?_
      refine lv_topi (fun y3 hy3 => ?_)
      obtain rfl : ((vF 65) 0) = y3 := (hy3.trans (rfl)).symm
      refine lv_iconst (v := 1) hx hb dX12_best1_86 (by decide) ?_
      refine W.cut (pc := 108) (fun H locs ls stk => ∃ (tv : Int64), (tv.toInt.natAbs ≤ 9999) ∧  stk = [.long tv, .int 10, .ref h0] ∧ va_P (dC, dI) vwCl (WR a k h0 vi vj (fT vF 0 gB) vG) H ∧ va_D A (WR a k h0 vi vj (fT vF 0 gB) vG) ∧ va_S A s.heap H locs ∧ lv_has ls 1 [(0, .ref h0)]) (fun join2 => ?_) ?_
      · refine lv_icmp_ne (tgt := 101) hx hb dX12_best1_87 (by decide) (fun c_87 => ?_) (fun c_87 => ?_)
        · have t_87 : (((vF 65) 0)).toInt ≠ 1 := toI_ne c_87 rfl (by decide)
          refine lv_aload_n hx hb dX12_best1_101 rfl (lv_at hl 0 rfl) ?_
          refine va_get (D := (dC, dI)) (ci := 12) (v := .ref (a 63)) (C := RX12) (T := TX12) (N := 163) (fs := fM (vS a vi vj)) hx hb hts iwsRX12_best1_in12 hown hK hP 0 rfl rfl 103 (by decide) (hts (.fieldLink RX12 212 "OptimaWorksModel" "goalTop" "[I") (by decide +kernel)) (fun _ h9 => h9) rfl dX12_best1_102 ?_
          refine lv_iconst (v := 0) hx hb dX12_best1_105 (by decide) ?_
          refine va_iald (cA := k 63) (n := 27) (f := (vF 63)) hx hb hK hP 64 63 (WR_get 63 (by decide)) (TR_get 63 (by decide)) (show ¬ ((0 : Int32) < 0 ∨ 27 ≤ (0 : Int32).toNatClampNeg) by decide) dX12_best1_106 ?_
          refine lv_topi (fun y4 hy4 => ?_)
          obtain rfl : ((vF 63) 0) = y4 := (hy4.trans (rfl)).symm
          refine lv_i2l hx hb dX12_best1_107 rfl ?_
          have hl : lv_has _ _ ([(0, .ref h0)]) := lv_sub hl [0] rfl
          exact join2 _ _ _ _ ⟨(((vF 63) 0)).toInt64, by rw [i64T]; omega, rfl, hP, hD, hS, hl⟩
        · have t_87 : (((vF 65) 0)).toInt = 1 := toI_nne c_87 rfl (by decide)
          refine lv_aload_n hx hb dX12_best1_90 rfl (lv_at hl 0 rfl) ?_
          refine va_get (D := (dC, dI)) (ci := 12) (v := .ref (a 63)) (C := RX12) (T := TX12) (N := 163) (fs := fM (vS a vi vj)) hx hb hts iwsRX12_best1_in12 hown hK hP 0 rfl rfl 103 (by decide) (hts (.fieldLink RX12 212 "OptimaWorksModel" "goalTop" "[I") (by decide +kernel)) (fun _ h9 => h9) rfl dX12_best1_91 ?_
          refine lv_iconst (v := 0) hx hb dX12_best1_94 (by decide) ?_
          refine va_iald (cA := k 63) (n := 27) (f := (vF 63)) hx hb hK hP 64 63 (WR_get 63 (by decide)) (TR_get 63 (by decide)) (show ¬ ((0 : Int32) < 0 ∨ 27 ≤ (0 : Int32).toNatClampNeg) by decide) dX12_best1_95 ?_
          refine lv_topi (fun y5 hy5 => ?_)
          obtain rfl : ((vF 63) 0) = y5 := (hy5.trans (rfl)).symm
          refine lv_ineg hx hb dX12_best1_96 ?_
          refine lv_i2l hx hb dX12_best1_97 rfl ?_
          refine lv_goto (tgt := 108) hx hb dX12_best1_98 (by decide) ?_
          have hl : lv_has _ _ ([(0, .ref h0)]) := lv_sub hl [0] rfl
          exact join2 _ _ _ _ ⟨((-((vF 63) 0))).toInt64, by rw [i64T]; exact (neg32 (b := 9999) (by omega) (by decide)).1, rfl, hP, hD, hS, hl⟩
      · rintro H locs ls stk ⟨tv, htv, rfl, hP, hD, hS, hl⟩
        have hFc := allFree hD hS hA
        refine va_callv (va_runV (As := [.int 10, .long tv]) (rest := []) ⟨hx, hb, hml, hown, hts⟩ (b_X12_put l dC dI a k h0 vi vj (fT vF 0 gB) vG 10 tv ((tv).toInt) mB hBB (by first | with_reducible assumption | decide | omega | rfl | assumption) (rfl) (by omega) H.size) (cwV 2 hts gwsRX12_best1_0 rfl rfl rfl hd_yX12_put_RX12 (by decide +kernel)) (fz_pre (va_recv hK hP (ci := 12) (q0 := 0) rfl rfl) hP hK hD) rfl rfl hl.1 rfl (lv_room (Nat.le_of_ble_eq_true rfl)) dX12_best1_108 (by decide +kernel)) hS (fun q _ h => hFc q h) hFc (fun g108 t9_ H locs ht hvm hw9 hB9 hz1 hk1 hS => ?_)
        have hP : va_P (dC, dI) vwCl (WR a k h0 vi vj (fT (fT vF 0 gB) 0 g108) vG) H := fz_P ht hB9.1
        have hD : va_D A (WR a k h0 vi vj (fT (fT vF 0 gB) 0 g108) vG) := hB9.2.weaken (fun _ q _ h => hFc q.1 h)
        have e9 : fT vF 0 g108 = fT (fT vF 0 gB) 0 g108 := (fT_sm _ _ _ _).symm
        rw [← e9] at hP hD
        clear e9
        have hP : va_P (dC, dI) vwCl (WR a k h0 vi vj (fT vF 0 g108) vG) H := hP
        have hD : va_D A (WR a k h0 vi vj (fT vF 0 g108) vG) := hD
        have f108_0 := hw9
        try dsimp only at f108_0
        refine lv_aload_n hx hb dX12_best1_111 rfl (lv_at hl 0 rfl) ?_
        refine lv_bipush (v := 11) hx hb dX12_best1_112 (by decide) ?_
        refine lv_aload_n hx hb dX12_best1_114 rfl (lv_at hl 0 rfl) ?_
        refine va_get (D := (dC, dI)) (ci := 12) (v := .ref (a 64)) (C := RX12) (T := TX12) (N := 163) (fs := fM (vS a vi vj)) hx hb hts iwsRX12_best1_in12 hown hK hP 0 rfl rfl 104 (by decide) (hts (.fieldLink RX12 215 "OptimaWorksModel" "goalUnder" "[I") (by decide +kernel)) (fun _ h9 => h9) rfl dX12_best1_115 ?_
        refine lv_iconst (v := 0) hx hb dX12_best1_118 (by decide) ?_
        refine va_iald (cA := k 64) (n := 27) (f := (vF 64)) hx hb hK hP 65 64 (WR_get 64 (by decide)) (TR_get 64 (by decide)) (show ¬ ((0 : Int32) < 0 ∨ 27 ≤ (0 : Int32).toNatClampNeg) by decide) dX12_best1_119 ?_
        refine lv_topi (fun y6 hy6 => ?_)
        obtain rfl : ((vF 64) 0) = y6 := (hy6.trans (rfl)).symm
        refine lv_i2l hx hb dX12_best1_120 rfl ?_
        have hFc := allFree hD hS hA
        refine va_callv (va_runV (As := [.int 11, .long (((vF 64) 0)).toInt64]) (rest := []) ⟨hx, hb, hml, hown, hts⟩ (b_X12_put l dC dI a k h0 vi vj (fT vF 0 g108) vG 11 ((((vF 64) 0)).toInt64) ((vF 64 0).toInt) (fT mB 10 ((tv).toInt)) f108_0 (by first | with_reducible assumption | decide | omega | rfl | assumption) (i64T _) (by omega) H.size) (cwV 2 hts gwsRX12_best1_0 rfl rfl rfl hd_yX12_put_RX12 (by decide +kernel)) (fz_pre (va_recv hK hP (ci := 12) (q0 := 0) rfl rfl) hP hK hD) rfl rfl hl.1 rfl (lv_room (Nat.le_of_ble_eq_true rfl)) dX12_best1_121 (by decide +kernel)) hS (fun q _ h => hFc q h) hFc (fun g121 t9_ H locs ht hvm hw9 hB9 hz1 hk1 hS => ?_)
        have hP : va_P (dC, dI) vwCl (WR a k h0 vi vj (fT (fT vF 0 g108) 0 g121) vG) H := fz_P ht hB9.1
        have hD : va_D A (WR a k h0 vi vj (fT (fT vF 0 g108) 0 g121) vG) := hB9.2.weaken (fun _ q _ h => hFc q.1 h)
        have e9 : fT vF 0 g121 = fT (fT vF 0 g108) 0 g121 := (fT_sm _ _ _ _).symm
        rw [← e9] at hP hD
        clear e9
        have hP : va_P (dC, dI) vwCl (WR a k h0 vi vj (fT vF 0 g121) vG) H := hP
        have hD : va_D A (WR a k h0 vi vj (fT vF 0 g121) vG) := hD
        have f121_0 := hw9
        try dsimp only at f121_0
        have s11 : Sz 14 (vF 64 0).toInt := by show _ < 2 ^ 14; exact Nat.lt_of_le_of_lt bu.2 (by decide)
        have s10 : Sz 14 tv.toInt := by show _ < 2 ^ 14; exact Nat.lt_of_le_of_lt htv (by decide)
        have s12 : Sz 223 (x50 * (vF 64 0).toInt) := mulp h50 s11 (by decide)
        have h1b5 : (mB 1051).natAbs < 2 ^ 187 := by rw [h51]; exact h1b
        have hp51 : 0 < mB 1051 := by rw [h51]; exact hp33
        have s13 : Sz 201 (tv.toInt * mB 1051) := mulp s10 h1b5 (by decide)
        have s47 : Sz 201 (mB 1051 * (vF 64 0).toInt) := mulp h1b5 s11 (by decide)
        have s46 : Sz 224 (x50 * (vF 64 0).toInt + -1 * (tv.toInt * mB 1051)) := sub224 s12 s13
        have n47 : mB 1051 * (vF 64 0).toInt ≠ 0 := by have := Int.mul_pos hp51 (show 0 < (vF 64 0).toInt by omega); omega
        refine lv_aload_n hx hb dX12_best1_124 rfl (lv_at hl 0 rfl) ?_
        refine lv_bipush (v := 12) hx hb dX12_best1_125 (by decide) ?_
        refine lv_sipush (v := 1050) hx hb dX12_best1_127 (by decide) ?_
        refine lv_bipush (v := 11) hx hb dX12_best1_130 (by decide) ?_
        have hFc := allFree hD hS hA
        refine va_callv (va_runV (As := [.int 12, .int 1050, .int 11]) (rest := []) ⟨hx, hb, hml, hown, hts⟩ (b_X12_times l dC dI a k h0 vi vj (fT vF 0 g121) vG 12 1050 11 (fT (fT mB 10 ((tv).toInt)) 11 ((vF 64 0).toInt)) f121_0 x50 ((vF 64 0).toInt) (by rw [fT_ne _ _ (by omega), fT_ne _ _ (by omega), v_x50]) (by rw [fT_eq]) (by first | with_reducible assumption | decide | omega | rfl | assumption) (by first | with_reducible assumption | decide | omega | rfl | assumption) (by first | with_reducible assumption | decide | omega | rfl | assumption) (mulpN (c := 588) h50 s11 (by decide)) H.size) (cwV 3 hts gwsRX12_best1_3 rfl rfl rfl hd_yX12_times_RX12 (by decide +kernel)) (fz_pre (va_recv hK hP (ci := 12) (q0 := 0) rfl rfl) hP hK hD) rfl rfl hl.1 rfl (lv_room (Nat.le_of_ble_eq_true rfl)) dX12_best1_132 (by decide +kernel)) hS (fun q _ h => hFc q h) hFc (fun u t9_ H locs ht hvm hw9 hB9 hz1 hk1 hS => ?_)
        revert u
        refine fz_p2 ?_
        intro g132 gs132 hw9 hB9
        try dsimp only at hw9 hB9
        have hP : va_P (dC, dI) vwCl (WR a k h0 vi vj (fT (fT vF 0 g121) 0 g132) (fT vG 1 gs132)) H := fz_P ht hB9.1
        have hD : va_D A (WR a k h0 vi vj (fT (fT vF 0 g121) 0 g132) (fT vG 1 gs132)) := hB9.2.weaken (fun _ q _ h => hFc q.1 h)
        have e9 : fT vF 0 g132 = fT (fT vF 0 g121) 0 g132 := (fT_sm _ _ _ _).symm
        rw [← e9] at hP hD
        clear e9
        have hP : va_P (dC, dI) vwCl (WR a k h0 vi vj (fT vF 0 g132) (fT vG 1 gs132)) H := hP
        have hD : va_D A (WR a k h0 vi vj (fT vF 0 g132) (fT vG 1 gs132)) := hD
        have f132_0 := hw9
        try dsimp only at f132_0
        refine lv_aload_n hx hb dX12_best1_135 rfl (lv_at hl 0 rfl) ?_
        refine lv_bipush (v := 13) hx hb dX12_best1_136 (by decide) ?_
        refine lv_bipush (v := 10) hx hb dX12_best1_138 (by decide) ?_
        refine lv_sipush (v := 1051) hx hb dX12_best1_140 (by decide) ?_
        have hFc := allFree hD hS hA
        refine va_callv (va_runV (As := [.int 13, .int 10, .int 1051]) (rest := []) ⟨hx, hb, hml, hown, hts⟩ (b_X12_times l dC dI a k h0 vi vj (fT vF 0 g132) (fT vG 1 gs132) 13 10 1051 (fT (fT (fT mB 10 ((tv).toInt)) 11 ((vF 64 0).toInt)) 12 (x50 * ((vF 64 0).toInt))) f132_0 ((tv).toInt) (mB 1051) (by rw [fT_ne _ _ (by omega), fT_ne _ _ (by omega), fT_eq]) (by rw [fT_ne _ _ (by omega), fT_ne _ _ (by omega), fT_ne _ _ (by omega)]) (by first | with_reducible assumption | decide | omega | rfl | assumption) (by first | with_reducible assumption | decide | omega | rfl | assumption) (by first | with_reducible assumption | decide | omega | rfl | assumption) (mulpN (c := 588) s10 h1b5 (by decide)) H.size) (cwV 3 hts gwsRX12_best1_3 rfl rfl rfl hd_yX12_times_RX12 (by decide +kernel)) (fz_pre (va_recv hK hP (ci := 12) (q0 := 0) rfl rfl) hP hK hD) rfl rfl hl.1 rfl (lv_room (Nat.le_of_ble_eq_true rfl)) dX12_best1_143 (by decide +kernel)) hS (fun q _ h => hFc q h) hFc (fun u t9_ H locs ht hvm hw9 hB9 hz1 hk1 hS => ?_)
        revert u
        refine fz_p2 ?_
        intro g143 gs143 hw9 hB9
        try dsimp only at hw9 hB9
        have hP : va_P (dC, dI) vwCl (WR a k h0 vi vj (fT (fT vF 0 g132) 0 g143) (fT (fT vG 1 gs132) 1 gs143)) H := fz_P ht hB9.1
        have hD : va_D A (WR a k h0 vi vj (fT (fT vF 0 g132) 0 g143) (fT (fT vG 1 gs132) 1 gs143)) := hB9.2.weaken (fun _ q _ h => hFc q.1 h)
        have e9 : fT vF 0 g143 = fT (fT vF 0 g132) 0 g143 := (fT_sm _ _ _ _).symm
        rw [← e9] at hP hD
        clear e9
        have e9 : fT vG 1 gs143 = fT (fT vG 1 gs132) 1 gs143 := (fT_sm _ _ _ _).symm
        rw [← e9] at hP hD
        clear e9
        have hP : va_P (dC, dI) vwCl (WR a k h0 vi vj (fT vF 0 g143) (fT vG 1 gs143)) H := hP
        have hD : va_D A (WR a k h0 vi vj (fT vF 0 g143) (fT vG 1 gs143)) := hD
        have f143_0 := hw9
        try dsimp only at f143_0
        refine lv_aload_n hx hb dX12_best1_146 rfl (lv_at hl 0 rfl) ?_
        refine lv_sipush (v := 1046) hx hb dX12_best1_147 (by decide) ?_
        refine lv_bipush (v := 12) hx hb dX12_best1_150 (by decide) ?_
        refine lv_bipush (v := 13) hx hb dX12_best1_152 (by decide) ?_
        refine lv_iconst (v := (-1)) hx hb dX12_best1_154 (by decide) ?_
        have hFc := allFree hD hS hA
        refine va_callv (va_runV (As := [.int 1046, .int 12, .int 13, .int (-1)]) (rest := []) ⟨hx, hb, hml, hown, hts⟩ (b_X12_add l dC dI a k h0 vi vj (fT vF 0 g143) (fT vG 1 gs143) 1046 (-1) (-1) 12 13 (fT (fT (fT (fT mB 10 ((tv).toInt)) 11 ((vF 64 0).toInt)) 12 (x50 * ((vF 64 0).toInt))) 13 (((tv).toInt) * (mB 1051))) f143_0 (x50 * ((vF 64 0).toInt)) (((tv).toInt) * (mB 1051)) (by rw [fT_ne _ _ (by omega), fT_eq]) (by rw [fT_eq]) (by first | with_reducible assumption | decide | omega | rfl | assumption) (by first | with_reducible assumption | decide | omega | rfl | assumption) (by first | with_reducible assumption | decide | omega | rfl | assumption) (Or.inr ⟨rfl, rfl⟩) (lift616 (k := 224) s46 (by decide)) H.size) (cwV 4 hts gwsRX12_best1_4 rfl rfl rfl hd_yX12_add_RX12 (by decide +kernel)) (fz_pre (va_recv hK hP (ci := 12) (q0 := 0) rfl rfl) hP hK hD) rfl rfl hl.1 rfl (lv_room (Nat.le_of_ble_eq_true rfl)) dX12_best1_155 (by decide +kernel)) hS (fun q _ h => hFc q h) hFc (fun u t9_ H locs ht hvm hw9 hB9 hz1 hk1 hS => ?_)
        revert u
        refine fz_p2 ?_
        intro g155 gs155 hw9 hB9
        try dsimp only at hw9 hB9
        have hP : va_P (dC, dI) vwCl (WR a k h0 vi vj (fT (fT vF 0 g143) 0 g155) (fT (fT vG 1 gs143) 1 gs155)) H := fz_P ht hB9.1
        have hD : va_D A (WR a k h0 vi vj (fT (fT vF 0 g143) 0 g155) (fT (fT vG 1 gs143) 1 gs155)) := hB9.2.weaken (fun _ q _ h => hFc q.1 h)
        have e9 : fT vF 0 g155 = fT (fT vF 0 g143) 0 g155 := (fT_sm _ _ _ _).symm
        rw [← e9] at hP hD
        clear e9
        have e9 : fT vG 1 gs155 = fT (fT vG 1 gs143) 1 gs155 := (fT_sm _ _ _ _).symm
        rw [← e9] at hP hD
        clear e9
        have hP : va_P (dC, dI) vwCl (WR a k h0 vi vj (fT vF 0 g155) (fT vG 1 gs155)) H := hP
        have hD : va_D A (WR a k h0 vi vj (fT vF 0 g155) (fT vG 1 gs155)) := hD
        have f155_0 := hw9
        try dsimp only at f155_0
        refine lv_aload_n hx hb dX12_best1_158 rfl (lv_at hl 0 rfl) ?_
        refine lv_sipush (v := 1047) hx hb dX12_best1_159 (by decide) ?_
        refine lv_sipush (v := 1051) hx hb dX12_best1_162 (by decide) ?_
        refine lv_bipush (v := 11) hx hb dX12_best1_165 (by decide) ?_
        have hFc := allFree hD hS hA
        refine va_callv (va_runV (As := [.int 1047, .int 1051, .int 11]) (rest := []) ⟨hx, hb, hml, hown, hts⟩ (b_X12_times l dC dI a k h0 vi vj (fT vF 0 g155) (fT vG 1 gs155) 1047 1051 11 (fT (fT (fT (fT (fT mB 10 ((tv).toInt)) 11 ((vF 64 0).toInt)) 12 (x50 * ((vF 64 0).toInt))) 13 (((tv).toInt) * (mB 1051))) 1046 ((x50 * ((vF 64 0).toInt)) + (-1) * (((tv).toInt) * (mB 1051)))) f155_0 (mB 1051) ((vF 64 0).toInt) (by rw [fT_ne _ _ (by omega), fT_ne _ _ (by omega), fT_ne _ _ (by omega), fT_ne _ _ (by omega), fT_ne _ _ (by omega)]) (by rw [fT_ne _ _ (by omega), fT_ne _ _ (by omega), fT_ne _ _ (by omega), fT_eq]) (by first | with_reducible assumption | decide | omega | rfl | assumption) (by first | with_reducible assumption | decide | omega | rfl | assumption) (by first | with_reducible assumption | decide | omega | rfl | assumption) (mulpN (c := 588) h1b5 s11 (by decide)) H.size) (cwV 3 hts gwsRX12_best1_3 rfl rfl rfl hd_yX12_times_RX12 (by decide +kernel)) (fz_pre (va_recv hK hP (ci := 12) (q0 := 0) rfl rfl) hP hK hD) rfl rfl hl.1 rfl (lv_room (Nat.le_of_ble_eq_true rfl)) dX12_best1_167 (by decide +kernel)) hS (fun q _ h => hFc q h) hFc (fun u t9_ H locs ht hvm hw9 hB9 hz1 hk1 hS => ?_)
        revert u
        refine fz_p2 ?_
        intro g167 gs167 hw9 hB9
        try dsimp only at hw9 hB9
        have hP : va_P (dC, dI) vwCl (WR a k h0 vi vj (fT (fT vF 0 g155) 0 g167) (fT (fT vG 1 gs155) 1 gs167)) H := fz_P ht hB9.1
        have hD : va_D A (WR a k h0 vi vj (fT (fT vF 0 g155) 0 g167) (fT (fT vG 1 gs155) 1 gs167)) := hB9.2.weaken (fun _ q _ h => hFc q.1 h)
        have e9 : fT vF 0 g167 = fT (fT vF 0 g155) 0 g167 := (fT_sm _ _ _ _).symm
        rw [← e9] at hP hD
        clear e9
        have e9 : fT vG 1 gs167 = fT (fT vG 1 gs155) 1 gs167 := (fT_sm _ _ _ _).symm
        rw [← e9] at hP hD
        clear e9
        have hP : va_P (dC, dI) vwCl (WR a k h0 vi vj (fT vF 0 g167) (fT vG 1 gs167)) H := hP
        have hD : va_D A (WR a k h0 vi vj (fT vF 0 g167) (fT vG 1 gs167)) := hD
        have f167_0 := hw9
        try dsimp only at f167_0
        refine lv_aload_n hx hb dX12_best1_170 rfl (lv_at hl 0 rfl) ?_
        refine lv_sipush (v := 1046) hx hb dX12_best1_171 (by decide) ?_
        refine lv_sipush (v := 1047) hx hb dX12_best1_174 (by decide) ?_
        have hFc := allFree hD hS hA
        refine va_callv (va_runV (As := [.int 1046, .int 1047]) (rest := []) ⟨hx, hb, hml, hown, hts⟩ (r_X12_shorten l dC dI a k h0 vi vj (fT vF 0 g167) (fT vG 1 gs167) 1046 1047 (fT (fT (fT (fT (fT (fT mB 10 ((tv).toInt)) 11 ((vF 64 0).toInt)) 12 (x50 * ((vF 64 0).toInt))) 13 (((tv).toInt) * (mB 1051))) 1046 ((x50 * ((vF 64 0).toInt)) + (-1) * (((tv).toInt) * (mB 1051)))) 1047 ((mB 1051) * ((vF 64 0).toInt))) f167_0 ((x50 * ((vF 64 0).toInt)) + (-1) * (((tv).toInt) * (mB 1051))) ((mB 1051) * ((vF 64 0).toInt)) (by rw [fT_ne _ _ (by omega), fT_eq]) (by rw [fT_eq]) (by first | with_reducible assumption | decide | omega | rfl | assumption) (by first | with_reducible assumption | decide | omega | rfl | assumption) (by first | with_reducible assumption | decide | omega | rfl | assumption) (by first | with_reducible assumption | decide | omega | rfl | assumption) (by first | with_reducible assumption | decide | omega | rfl | assumption) (n47) H.size) (cwV 2 hts gwsRX12_best1_5 rfl rfl rfl hd_yX12_shorten_RX12 (by decide +kernel)) (fz_pre (va_recv hK hP (ci := 12) (q0 := 0) rfl rfl) hP hK hD) rfl rfl hl.1 rfl (lv_room (Nat.le_of_ble_eq_true rfl)) dX12_best1_177 (by decide +kernel)) hS (fun q _ h => hFc q h) hFc (fun u t9_ H locs ht hvm hw9 hB9 hz1 hk1 hS => ?_)
        revert u
        refine fz_p5 ?_
        intro g177 f2w177 f3w177 gs177 m2177 hw9 hB9
        try dsimp only at hw9 hB9
        have hP : va_P (dC, dI) vwCl (WR a k h0 vi vj (fT (fT (fT (fT vF 0 g167) 0 g177) 2 f2w177) 3 f3w177) (fT (fT vG 1 gs167) 1 gs177)) H := fz_P ht hB9.1
        have hD : va_D A (WR a k h0 vi vj (fT (fT (fT (fT vF 0 g167) 0 g177) 2 f2w177) 3 f3w177) (fT (fT vG 1 gs167) 1 gs177)) := hB9.2.weaken (fun _ q _ h => hFc q.1 h)
        have e9 : fT (fT (fT vF 0 g177) 2 f2w177) 3 f3w177 = fT (fT (fT (fT vF 0 g167) 0 g177) 2 f2w177) 3 f3w177 := (congrArg (fun g9 => fT (fT g9 2 f2w177) 3 f3w177) (fT_sm _ _ _ _)).symm
        rw [← e9] at hP hD
        clear e9
        have e9 : fT vG 1 gs177 = fT (fT vG 1 gs167) 1 gs177 := (fT_sm _ _ _ _).symm
        rw [← e9] at hP hD
        clear e9
        have hP : va_P (dC, dI) vwCl (WR a k h0 vi vj (fT (fT (fT vF 0 g177) 2 f2w177) 3 f3w177) (fT vG 1 gs177)) H := hP
        have hD : va_D A (WR a k h0 vi vj (fT (fT (fT vF 0 g177) 2 f2w177) 3 f3w177) (fT vG 1 gs177)) := hD
        revert hw9
        refine fz_a5 ?_
        intro f177_0 f177_1 f177_2 f177_3 f177_4
        refine lv_aload_n hx hb dX12_best1_180 rfl (lv_at hl 0 rfl) ?_
        refine lv_sipush (v := 1050) hx hb dX12_best1_181 (by decide) ?_
        refine lv_sipush (v := 1051) hx hb dX12_best1_184 (by decide) ?_
        have hFc := allFree hD hS hA
        refine va_callv (va_runV (As := [.int 1050, .int 1051]) (rest := []) ⟨hx, hb, hml, hown, hts⟩ (r_X12_shorten l dC dI a k h0 vi vj (fT (fT (fT vF 0 g177) 2 f2w177) 3 f3w177) (fT vG 1 gs177) 1050 1051 m2177 f177_0 x50 (mB 1051) (by rw [f177_3 _ (by omega) (by omega) (by omega), fT_ne _ _ (by omega), fT_ne _ _ (by omega), fT_ne _ _ (by omega), fT_ne _ _ (by omega), fT_ne _ _ (by omega), fT_ne _ _ (by omega), v_x50]) (by rw [f177_3 _ (by omega) (by omega) (by omega), fT_ne _ _ (by omega), fT_ne _ _ (by omega), fT_ne _ _ (by omega), fT_ne _ _ (by omega), fT_ne _ _ (by omega), fT_ne _ _ (by omega)]) (by first | with_reducible assumption | decide | omega | rfl | assumption) (by first | with_reducible assumption | decide | omega | rfl | assumption) (by first | with_reducible assumption | decide | omega | rfl | assumption) (by first | with_reducible assumption | decide | omega | rfl | assumption) (by first | with_reducible assumption | decide | omega | rfl | assumption) (by omega) H.size) (cwV 2 hts gwsRX12_best1_5 rfl rfl rfl hd_yX12_shorten_RX12 (by decide +kernel)) (fz_pre (va_recv hK hP (ci := 12) (q0 := 0) rfl rfl) hP hK hD) rfl rfl hl.1 rfl (lv_room (Nat.le_of_ble_eq_true rfl)) dX12_best1_187 (by decide +kernel)) hS (fun q _ h => hFc q h) hFc (fun u t9_ H locs ht hvm hw9 hB9 hz1 hk1 hS => ?_)
        revert u
        refine fz_p5 ?_
        intro g187 f2w187 f3w187 gs187 m2187 hw9 hB9
        try dsimp only at hw9 hB9
        have hP : va_P (dC, dI) vwCl (WR a k h0 vi vj (fT (fT (fT (fT (fT (fT vF 0 g177) 2 f2w177) 3 f3w177) 0 g187) 2 f2w187) 3 f3w187) (fT (fT vG 1 gs177) 1 gs187)) H := fz_P ht hB9.1
        have hD : va_D A (WR a k h0 vi vj (fT (fT (fT (fT (fT (fT vF 0 g177) 2 f2w177) 3 f3w177) 0 g187) 2 f2w187) 3 f3w187) (fT (fT vG 1 gs177) 1 gs187)) := hB9.2.weaken (fun _ q _ h => hFc q.1 h)
        have e9 : fT (fT (fT vF 0 g187) 2 f2w187) 3 f3w187 = fT (fT (fT (fT (fT (fT vF 0 g177) 2 f2w177) 3 f3w177) 0 g187) 2 f2w187) 3 f3w187 := ((congrArg (fun g9 => fT (fT g9 2 f2w187) 3 f3w187) ((fT_sw _ _ _ (Nat.ne_of_beq_eq_false rfl)).trans (congrArg (fun g9 => fT g9 3 f3w177) ((fT_sw _ _ _ (Nat.ne_of_beq_eq_false rfl)).trans (congrArg (fun g9 => fT g9 2 f2w177) (fT_sm _ _ _ _)))))).trans ((congrArg (fun g9 => fT g9 3 f3w187) ((fT_sw _ _ _ (Nat.ne_of_beq_eq_false rfl)).trans (congrArg (fun g9 => fT g9 3 f3w177) (fT_sm _ _ _ _)))).trans (fT_sm _ _ _ _))).symm
        rw [← e9] at hP hD
        clear e9
        have e9 : fT vG 1 gs187 = fT (fT vG 1 gs177) 1 gs187 := (fT_sm _ _ _ _).symm
        rw [← e9] at hP hD
        clear e9
        have hP : va_P (dC, dI) vwCl (WR a k h0 vi vj (fT (fT (fT vF 0 g187) 2 f2w187) 3 f3w187) (fT vG 1 gs187)) H := hP
        have hD : va_D A (WR a k h0 vi vj (fT (fT (fT vF 0 g187) 2 f2w187) 3 f3w187) (fT vG 1 gs187)) := hD
        revert hw9
        refine fz_a5 ?_
        intro f187_0 f187_1 f187_2 f187_3 f187_4
        refine W.widen (k := 0) (n := 0) (by decide +kernel) (by decide +kernel) ?_
        exact W.vret hx hb hr (fun t9_ ht hW => ⟨⟨(g187, f2w187, f3w187, gs187, m2187), rfl, by (try dsimp only); exact ⟨f187_0, ⟨by rw [f187_3 _ (by omega) (by omega) (by omega)]; exact Nat.lt_of_le_of_lt f177_1 s46, by rw [f187_3 _ (by omega) (by omega) (by omega)]; exact Nat.lt_of_le_of_lt f177_2 s47⟩, f187_4, fun q h1 h2 h3 h4 h5 => by (rw [f187_3 _ (by omega) (by omega) (by omega), f177_3 _ (by omega) (by omega) (by omega), fT_ne _ _ (by omega), fT_ne _ _ (by omega), fT_ne _ _ (by omega), fT_ne _ _ (by omega), fT_ne _ _ (by omega), fT_ne _ _ (by omega)]); exact hoB q (by omega)⟩, by rw [ht]; exact hP, hD⟩, hS.F ht⟩) hS.2.2 dX12_best1_190
  · have t_36 : ((gq : Nat) : Int) = 0 := toI_nne c_36 (nI_toInt (by omega)) (by decide)
    refine W.widen (k := 0) (n := 0) (by decide +kernel) (by decide +kernel) ?_
    have e9 : fT (fT (fT vF 0 g29) 2 (vF 2)) 3 (vF 3) = fT vF 0 g29 := (fT_id _ _ ((fT_ne _ _ (Nat.ne_of_beq_eq_false rfl)).trans (fT_ne _ _ (Nat.ne_of_beq_eq_false rfl)))).trans (fT_id _ _ (fT_ne _ _ (Nat.ne_of_beq_eq_false rfl)))
    have hP : va_P (dC, dI) vwCl (WR a k h0 vi vj (fT (fT (fT vF 0 g29) 2 (vF 2)) 3 (vF 3)) vG) H := by rw [e9]; exact hP
    have hD : va_D A (WR a k h0 vi vj (fT (fT (fT vF 0 g29) 2 (vF 2)) 3 (vF 3)) vG) := by rw [e9]; exact hD
    clear e9
    have e9 : fT vG 1 (vG 1) = vG := fT_id _ _ (rfl)
    have hP : va_P (dC, dI) vwCl (WR a k h0 vi vj (fT (fT (fT vF 0 g29) 2 (vF 2)) 3 (vF 3)) (fT vG 1 (vG 1))) H := by rw [e9]; exact hP
    have hD : va_D A (WR a k h0 vi vj (fT (fT (fT vF 0 g29) 2 (vF 2)) 3 (vF 3)) (fT vG 1 (vG 1))) := by rw [e9]; exact hD
    clear e9
    exact W.vret hx hb hr (fun t9_ ht hW => ⟨⟨(g29, (vF 2), (vF 3), (vG 1), (fT (fT (fT (fT mg 1050 0) 1051 1) 1046 0) 1047 1)), rfl, by (try dsimp only); exact ⟨f29_0, by (have e9 : (fT (fT (fT (fT mg 1050 0) 1051 1) 1046 0) 1047 1) 1046 = 0 := (by rw [fT_ne _ _ (by omega), fT_eq])); (have e8 : (fT (fT (fT (fT mg 1050 0) 1051 1) 1046 0) 1047 1) 1047 = 1 := (by rw [fT_eq])); rw [e9, e8]; exact ⟨by show _ < _; decide, by show _ < _; decide⟩, by (have e8 : (fT (fT (fT (fT mg 1050 0) 1051 1) 1046 0) 1047 1) 1051 = 1 := (by rw [fT_ne _ _ (by omega), fT_ne _ _ (by omega), fT_eq])); rw [e8]; decide, fun q h1 h2 h3 h4 h5 => by (rw [fT_ne _ _ (by omega), fT_ne _ _ (by omega), fT_ne _ _ (by omega), fT_ne _ _ (by omega)])⟩, by rw [ht]; exact hP, hD⟩, hS.F ht⟩) hS.2.2 dX12_best1_39
theorem dX12_shortBest_0 : decode cX12_shortBest 0 = .ok (.aload_n 0, 1) := dk_42 (by decide +kernel)
theorem dX12_shortBest_1 : decode cX12_shortBest 1 = .ok (.invokevirtual 912, 3) := dk_182 (by decide +kernel)
theorem dX12_shortBest_4 : decode cX12_shortBest 4 = .ok (.pop, 1) := dk_87 (by decide +kernel)
theorem dX12_shortBest_5 : decode cX12_shortBest 5 = .ok (.aload_n 0, 1) := dk_42 (by decide +kernel)
theorem dX12_shortBest_6 : decode cX12_shortBest 6 = .ok (.sipush 1046, 3) := dk_17 (by decide +kernel)
theorem dX12_shortBest_9 : decode cX12_shortBest 9 = .ok (.aload_n 0, 1) := dk_42 (by decide +kernel)
theorem dX12_shortBest_10 : decode cX12_shortBest 10 = .ok (.aload_n 0, 1) := dk_42 (by decide +kernel)
theorem dX12_shortBest_11 : decode cX12_shortBest 11 = .ok (.getfield 399, 3) := dk_180 (by decide +kernel)
theorem dX12_shortBest_14 : decode cX12_shortBest 14 = .ok (.iconst 1, 1) := dk_4 (by decide +kernel)
theorem dX12_shortBest_15 : decode cX12_shortBest 15 = .ok (.iadd, 1) := dk_96 (by decide +kernel)
theorem dX12_shortBest_16 : decode cX12_shortBest 16 = .ok (.aload_n 0, 1) := dk_42 (by decide +kernel)
theorem dX12_shortBest_17 : decode cX12_shortBest 17 = .ok (.getfield 396, 3) := dk_180 (by decide +kernel)
theorem dX12_shortBest_20 : decode cX12_shortBest 20 = .ok (.invokevirtual 405, 3) := dk_182 (by decide +kernel)
theorem dX12_shortBest_23 : decode cX12_shortBest 23 = .ok (.invokevirtual 365, 3) := dk_182 (by decide +kernel)
theorem dX12_shortBest_26 : decode cX12_shortBest 26 = .ok (.aload_n 0, 1) := dk_42 (by decide +kernel)
theorem dX12_shortBest_27 : decode cX12_shortBest 27 = .ok (.sipush 1047, 3) := dk_17 (by decide +kernel)
theorem dX12_shortBest_30 : decode cX12_shortBest 30 = .ok (.bipush 20, 2) := dk_16 (by decide +kernel)
theorem dX12_shortBest_32 : decode cX12_shortBest 32 = .ok (.sipush 1045, 3) := dk_17 (by decide +kernel)
theorem dX12_shortBest_35 : decode cX12_shortBest 35 = .ok (.invokevirtual 390, 3) := dk_182 (by decide +kernel)
theorem dX12_shortBest_38 : decode cX12_shortBest 38 = .ok (.aload_n 0, 1) := dk_42 (by decide +kernel)
theorem dX12_shortBest_39 : decode cX12_shortBest 39 = .ok (.sipush 1046, 3) := dk_17 (by decide +kernel)
theorem dX12_shortBest_42 : decode cX12_shortBest 42 = .ok (.sipush 1047, 3) := dk_17 (by decide +kernel)
theorem dX12_shortBest_45 : decode cX12_shortBest 45 = .ok (.invokevirtual 930, 3) := dk_182 (by decide +kernel)
theorem dX12_shortBest_48 : decode cX12_shortBest 48 = .ok (.aload_n 0, 1) := dk_42 (by decide +kernel)
theorem dX12_shortBest_49 : decode cX12_shortBest 49 = .ok (.sipush 1050, 3) := dk_17 (by decide +kernel)
theorem dX12_shortBest_52 : decode cX12_shortBest 52 = .ok (.sipush 1046, 3) := dk_17 (by decide +kernel)
theorem dX12_shortBest_55 : decode cX12_shortBest 55 = .ok (.invokevirtual 365, 3) := dk_182 (by decide +kernel)
theorem dX12_shortBest_58 : decode cX12_shortBest 58 = .ok (.aload_n 0, 1) := dk_42 (by decide +kernel)
theorem dX12_shortBest_59 : decode cX12_shortBest 59 = .ok (.sipush 1051, 3) := dk_17 (by decide +kernel)
theorem dX12_shortBest_62 : decode cX12_shortBest 62 = .ok (.sipush 1047, 3) := dk_17 (by decide +kernel)
theorem dX12_shortBest_65 : decode cX12_shortBest 65 = .ok (.invokevirtual 365, 3) := dk_182 (by decide +kernel)
theorem dX12_shortBest_68 : decode cX12_shortBest 68 = .ok (.return_, 1) := dk_177 (by decide +kernel)
def wsRX12_shortBest : List Cond := .code yX12_shortBest cX12_shortBest 1 none :: ([.fieldLink RX12 399 "OptimaWorksModel" "rows" "I", .fieldLink RX12 396 "OptimaWorksModel" "columns" "I"] ++ wsX120 ++ (wsV RX12 912 RX12 yX12_addsUp wsRX12_addsUp) ++ (wsV RX12 405 RX12 yX12_at wsRX12_at) ++ (wsV RX12 365 RX12 yX12_copy wsRX12_copy) ++ (wsV RX12 390 RX12 yX12_times wsRX12_times) ++ (wsV RX12 930 RX12 yX12_shorten wsRX12_shorten))
theorem iwsRX12_shortBest_in12 : ∀ w ∈ wsX120, w ∈ wsRX12_shortBest := fun _ h => List.mem_cons_of_mem _ (List.mem_append_left _ (List.mem_append_left _ (List.mem_append_left _ (List.mem_append_left _ (List.mem_append_left _ (List.mem_append_right _ h))))))
theorem gwsRX12_shortBest_0 : GoodIn wsRX12_shortBest (wsV RX12 912 RX12 yX12_addsUp wsRX12_addsUp) := goodIn_sub (fun _ h => List.mem_cons_of_mem _ (List.mem_append_left _ (List.mem_append_left _ (List.mem_append_left _ (List.mem_append_left _ (List.mem_append_right _ h)))))) (gdV (by decide +kernel) gdwsRX12_addsUp)
theorem gwsRX12_shortBest_1 : GoodIn wsRX12_shortBest (wsV RX12 405 RX12 yX12_at wsRX12_at) := goodIn_sub (fun _ h => List.mem_cons_of_mem _ (List.mem_append_left _ (List.mem_append_left _ (List.mem_append_left _ (List.mem_append_right _ h))))) (gdV (by decide +kernel) gdwsRX12_at)
theorem gwsRX12_shortBest_2 : GoodIn wsRX12_shortBest (wsV RX12 365 RX12 yX12_copy wsRX12_copy) := goodIn_sub (fun _ h => List.mem_cons_of_mem _ (List.mem_append_left _ (List.mem_append_left _ (List.mem_append_right _ h)))) (gdV (by decide +kernel) gdwsRX12_copy)
theorem gwsRX12_shortBest_3 : GoodIn wsRX12_shortBest (wsV RX12 390 RX12 yX12_times wsRX12_times) := goodIn_sub (fun _ h => List.mem_cons_of_mem _ (List.mem_append_left _ (List.mem_append_right _ h))) (gdV (by decide +kernel) gdwsRX12_times)
theorem gwsRX12_shortBest_4 : GoodIn wsRX12_shortBest (wsV RX12 930 RX12 yX12_shorten wsRX12_shorten) := goodIn_sub (fun _ h => List.mem_cons_of_mem _ (List.mem_append_right _ h)) (gdV (by decide +kernel) gdwsRX12_shorten)
theorem gdwsRX12_shortBest : wsRX12_shortBest.all goodWord = true := gdC rfl (gdA (gdA (gdA (gdA (gdA (gdA (by decide +kernel : ([.fieldLink RX12 399 "OptimaWorksModel" "rows" "I", .fieldLink RX12 396 "OptimaWorksModel" "columns" "I"] : List Cond).all goodWord = true) gdwsX120) (gdV (by decide +kernel) gdwsRX12_addsUp)) (gdV (by decide +kernel) gdwsRX12_at)) (gdV (by decide +kernel) gdwsRX12_copy)) (gdV (by decide +kernel) gdwsRX12_times)) (gdV (by decide +kernel) gdwsRX12_shorten))
set_option maxHeartbeats 4000000 in
set_option maxRecDepth 100000 in
/-- shortBest() -/
theorem r_X12_shortBest (l : Launch) (dC : Nat → ClassId) (dI : Nat → Nat → Nat) (a : Nat → Nat) (k : Nat → ClassId) (h0 : Nat) (vi : Nat → Int32) (vj : Nat → Int64) (vF : Nat → Nat → Int32) (vG : Nat → Nat → Int64) (vn : Nat) (mr : Nat) (gq : Nat) (z : Nat) (nd : Nat) (mg : Nat → Int) (hBg : Bg (vF 0) mg) (hvn : vi 90 = nI vn) (hvn8 : vn ≤ 8) (hmr12 : mr ≤ 12) (hmg : vi 93 = nI gq) (hgq : gq ≤ 3) (hM : MdlB vF gq) (hnd : vi 119 = nI nd) (hN : NdO (vF 71) (vF 72) vn mr z nd) (hsh : vi 118 ≠ 0) (sz : Nat) : Met l yX12_shortBest wsRX12_shortBest ({ frames := 7, cells := 0, slots := 0, locals := 182 }) (va_Pc [.ref h0] (fun U => U.heap.size = sz ∧ va_P (dC, dI) vwCl (WR a k h0 vi vj vF vG) U.heap ∧ va_K (dC, dI) vwCl (tX12 k) U ∧ va_D (fun _ => True) (WR a k h0 vi vj vF vG))) (va_Qv (fun (u : (Nat → Int32) × (Nat → Int32) × (Nat → Int32) × (Nat → Int32) × (Nat → Int32) × (Nat → Int32) × (Nat → Int32) × (Nat → Int64) × (Nat → Int64) × (Nat → Int64) × (Int64) × (Nat → Int) × (Int32) × (Int32) × (Int32)) => (Bg (u.1) (u.2.2.2.2.2.2.2.2.2.2.2.1)) ∧ (Sz 294 ((u.2.2.2.2.2.2.2.2.2.2.2.1) 1046) ∧ Sz 258 ((u.2.2.2.2.2.2.2.2.2.2.2.1) 1047)) ∧ (0 < (u.2.2.2.2.2.2.2.2.2.2.2.1) 1051) ∧ (∀ q, 1000 ≤ q → q ≠ 1045 → q ≠ 1046 → q ≠ 1047 → q ≠ 1050 → q ≠ 1051 → (u.2.2.2.2.2.2.2.2.2.2.2.1) q = mg q)) (fun (u : (Nat → Int32) × (Nat → Int32) × (Nat → Int32) × (Nat → Int32) × (Nat → Int32) × (Nat → Int32) × (Nat → Int32) × (Nat → Int64) × (Nat → Int64) × (Nat → Int64) × (Int64) × (Nat → Int) × (Int32) × (Int32) × (Int32)) t => va_P (dC, dI) vwCl (WR a k h0 (fT (fT (fT (fT vi 5 (u.2.2.2.2.2.2.2.2.2.2.2.2.1)) 6 (u.2.2.2.2.2.2.2.2.2.2.2.2.2.1)) 7 (u.2.2.2.2.2.2.2.2.2.2.2.2.2.2)) 11 0) (fT vj 12 (u.2.2.2.2.2.2.2.2.2.2.1)) (fT (fT (fT (fT (fT (fT (fT vF 74 (u.2.2.2.2.2.2.1)) 0 (u.1)) 4 (u.2.2.2.1)) 6 (u.2.2.2.2.2.1)) 2 (u.2.1)) 3 (u.2.2.1)) 5 (u.2.2.2.2.1)) (fT (fT (fT vG 1 (u.2.2.2.2.2.2.2.1)) 7 (u.2.2.2.2.2.2.2.2.1)) 8 (u.2.2.2.2.2.2.2.2.2.1))) t.heap ∧ va_D (va_A (WR a k h0 vi vj vF vG) sz) (WR a k h0 (fT (fT (fT (fT vi 5 (u.2.2.2.2.2.2.2.2.2.2.2.2.1)) 6 (u.2.2.2.2.2.2.2.2.2.2.2.2.2.1)) 7 (u.2.2.2.2.2.2.2.2.2.2.2.2.2.2)) 11 0) (fT vj 12 (u.2.2.2.2.2.2.2.2.2.2.1)) (fT (fT (fT (fT (fT (fT (fT vF 74 (u.2.2.2.2.2.2.1)) 0 (u.1)) 4 (u.2.2.2.1)) 6 (u.2.2.2.2.2.1)) 2 (u.2.1)) 3 (u.2.2.1)) 5 (u.2.2.2.2.1)) (fT (fT (fT vG 1 (u.2.2.2.2.2.2.2.1)) 7 (u.2.2.2.2.2.2.2.2.1)) 8 (u.2.2.2.2.2.2.2.2.2.1)))) (va_A (WR a k h0 vi vj vF vG) sz)) 0 0 (va_A (WR a k h0 vi vj vF vG) sz) := by
  refine Met.ofW (cc := cX12_shortBest) (maxL := 1) (ret := none) (by decide) rfl ?_
  intro p e s m args below meth c s₁ B hml hv
  obtain ⟨rfl, hsz, hP, hK, hD0⟩ := hv
  have hx := B.exec
  have hb := B.bytes
  have hr := B.returns
  have hts := atoms_spec (ws := wsRX12_shortBest) B.pre
  have hown : s.vm.findClass RX12 = some m.cls := findClass_of_methodNamed B.named
  have hlocks := B.notSynchronized
  subst hsz
  have hD := hD0.self (sz := s.heap.size)
  generalize hAe : va_A (WR a k h0 vi vj vF vG) s.heap.size = A at hD ⊢
  have hA : ∀ q : Nat, s.heap.size ≤ q → A q := fun q h => by rw [← hAe]; exact Or.inr h
  have hS : va_S A s.heap s.heap [] := va_S.rf
  have hl := lv_entry ([.ref h0]) (n := 1) (Nat.le_of_ble_eq_true rfl)
  rw [lg_entry_eq]
  generalize (lg_sl ([.ref h0]) ++ List.replicate (1 - (lg_sl ([.ref h0])).length) Slot.unset).toArray = ls at hl ⊢
  have hl : lv_has ls 1 [(0, .ref h0)] := hl
  refine lv_aload_n hx hb dX12_shortBest_0 rfl (lv_at hl 0 rfl) ?_
  have hFc := allFree hD hS hA
  refine va_calli (va_runV (As := []) (rest := []) ⟨hx, hb, hml, hown, hts⟩ (r_X12_addsUp l dC dI a k h0 vi vj vF vG vn mr gq z nd mg hBg (by first | with_reducible assumption | decide | omega | rfl | assumption) (by first | with_reducible assumption | decide | omega | rfl | assumption) (by first | with_reducible assumption | decide | omega | rfl | assumption) (by first | with_reducible assumption | decide | omega | rfl | assumption) (by first | with_reducible assumption | decide | omega | rfl | assumption) (by first | with_reducible assumption | decide | omega | rfl | assumption) (by first | with_reducible assumption | decide | omega | rfl | assumption) (by first | with_reducible assumption | decide | omega | rfl | assumption) s.heap.size) (cwV 0 hts gwsRX12_shortBest_0 rfl rfl rfl hd_yX12_addsUp_RX12 (by decide +kernel)) (fz_pre (va_recv hK hP (ci := 12) (q0 := 0) rfl rfl) hP hK hD) rfl rfl hl.1 rfl (lv_room (Nat.le_of_ble_eq_true rfl)) dX12_shortBest_1 (by decide +kernel)) hS (fun q _ h => hFc q h) hFc (fun r1 u t9_ H locs ht hvm hw9 hB9 hz1 hk1 hS => ?_)
  revert u
  refine fz_p16 ?_
  intro g1 f2w1 f3w1 f41 f51 f61 f741 gs1 F1 L81 qd1 C1 R1 t21 D21 m21 hw9 hB9
  try dsimp only at hw9 hB9
  have hP : va_P (dC, dI) vwCl (WR a k h0 (fT (fT (fT (fT vi 5 (nI C1)) 6 (nI R1)) 7 (nI 2)) 11 0) (fT vj 12 qd1) (fT (fT (fT (fT (fT (fT (fT vF 74 f741) 0 g1) 4 f41) 6 f61) 2 f2w1) 3 f3w1) 5 f51) (fT (fT (fT vG 1 gs1) 7 F1) 8 L81)) H := fz_P ht hB9.1
  have hD : va_D A (WR a k h0 (fT (fT (fT (fT vi 5 (nI C1)) 6 (nI R1)) 7 (nI 2)) 11 0) (fT vj 12 qd1) (fT (fT (fT (fT (fT (fT (fT vF 74 f741) 0 g1) 4 f41) 6 f61) 2 f2w1) 3 f3w1) 5 f51) (fT (fT (fT vG 1 gs1) 7 F1) 8 L81)) := hB9.2.weaken (fun _ q _ h => hFc q.1 h)
  revert hw9
  refine fz_a9 ?_
  intro f1_0 f1_1 f1_2 f1_3 f1_4 f1_5 f1_6 f1_7 f1_8
  have f1_6 : 0 < m21 1045 ∧ Sz 67 (m21 1045) ∧ ((vi 118) ≠ 0 → m21 1045 = 1) := f1_6
  refine lv_pop hx hb dX12_shortBest_4 rfl ?_
  have hpl := pl_lt (C := C1) (show R1 + 1 < R1 + 2 by omega) (Nat.le_refl C1)
  have hp2 : (R1 + 2) * (C1 + 1) ≤ 20 * 42 := Nat.mul_le_mul (by omega) (by omega)
  have hgo := f1_1.1 (R1 + 1) (by omega) C1 (Nat.le_refl _)
  have h20 := f1_1.2
  have e45 : m21 1045 = 1 := f1_6.2.2 hsh
  have s47 : Sz 258 (m21 20 * m21 1045) := by rw [e45, Int.mul_one, h20]; exact f1_2.2
  have n47 : m21 20 * m21 1045 ≠ 0 := by rw [e45, Int.mul_one, h20]; (have h9 := f1_2.1); omega
  refine lv_aload_n hx hb dX12_shortBest_5 rfl (lv_at hl 0 rfl) ?_
  refine lv_sipush (v := 1046) hx hb dX12_shortBest_6 (by decide) ?_
  refine lv_aload_n hx hb dX12_shortBest_9 rfl (lv_at hl 0 rfl) ?_
  refine lv_aload_n hx hb dX12_shortBest_10 rfl (lv_at hl 0 rfl) ?_
  refine va_get (D := (dC, dI)) (ci := 12) (v := .int (nI R1)) (C := RX12) (T := TX12) (N := 163) (fs := fM (vS a (fT (fT (fT (fT vi 5 (nI C1)) 6 (nI R1)) 7 (nI 2)) 11 0) (fT vj 12 qd1))) hx hb hts iwsRX12_shortBest_in12 hown hK hP 0 rfl rfl 6 (by decide) (hts (.fieldLink RX12 399 "OptimaWorksModel" "rows" "I") (by decide +kernel)) (fun _ h9 => h9) rfl dX12_shortBest_11 ?_
  refine lv_iconst (v := 1) hx hb dX12_shortBest_14 (by decide) ?_
  refine lv_iadd hx hb dX12_shortBest_15 ?_
  refine lv_topi (fun y1 hy1 => ?_)
  obtain rfl : (nI (R1 + 1)) = y1 := (hy1.trans (nI_add R1 1)).symm
  refine lv_aload_n hx hb dX12_shortBest_16 rfl (lv_at hl 0 rfl) ?_
  refine va_get (D := (dC, dI)) (ci := 12) (v := .int (nI C1)) (C := RX12) (T := TX12) (N := 163) (fs := fM (vS a (fT (fT (fT (fT vi 5 (nI C1)) 6 (nI R1)) 7 (nI 2)) 11 0) (fT vj 12 qd1))) hx hb hts iwsRX12_shortBest_in12 hown hK hP 0 rfl rfl 5 (by decide) (hts (.fieldLink RX12 396 "OptimaWorksModel" "columns" "I") (by decide +kernel)) (fun _ h9 => h9) rfl dX12_shortBest_17 ?_
  have hFc := allFree hD hS hA
  refine va_calli (va_runV (As := [.int (nI (R1 + 1)), .int (nI C1)]) (rest := [.int 1046, .ref h0]) ⟨hx, hb, hml, hown, hts⟩ (r_X12_at l dC dI a k h0 (fT (fT (fT (fT vi 5 (nI C1)) 6 (nI R1)) 7 (nI 2)) 11 0) (fT vj 12 qd1) (fT (fT (fT (fT (fT (fT (fT vF 74 f741) 0 g1) 4 f41) 6 f61) 2 f2w1) 3 f3w1) 5 f51) (fT (fT (fT vG 1 gs1) 7 F1) 8 L81) (R1 + 1) C1 C1 (by first | with_reducible assumption | decide | omega | rfl | assumption) H.size) (cwV 2 hts gwsRX12_shortBest_1 rfl rfl rfl hd_yX12_at_RX12 (by decide +kernel)) (fz_pre (va_recv hK hP (ci := 12) (q0 := 0) rfl rfl) hP hK hD) rfl rfl hl.1 rfl (lv_room (Nat.le_of_ble_eq_true rfl)) dX12_shortBest_20 (by decide +kernel)) hS (fun q _ h => hFc q h) hFc (fun r20 u t9_ H locs ht hvm hw9 hB9 hz1 hk1 hS => ?_)
  have hP : va_P (dC, dI) vwCl (WR a k h0 (fT (fT (fT (fT vi 5 (nI C1)) 6 (nI R1)) 7 (nI 2)) 11 0) (fT vj 12 qd1) (fT (fT (fT (fT (fT (fT (fT vF 74 f741) 0 g1) 4 f41) 6 f61) 2 f2w1) 3 f3w1) 5 f51) (fT (fT (fT vG 1 gs1) 7 F1) 8 L81)) H := fz_P ht hB9.1
  have hD : va_D A (WR a k h0 (fT (fT (fT (fT vi 5 (nI C1)) 6 (nI R1)) 7 (nI 2)) 11 0) (fT vj 12 qd1) (fT (fT (fT (fT (fT (fT (fT vF 74 f741) 0 g1) 4 f41) 6 f61) 2 f2w1) 3 f3w1) 5 f51) (fT (fT (fT vG 1 gs1) 7 F1) 8 L81)) := hB9.2.weaken (fun _ q _ h => hFc q.1 h)
  obtain rfl := hw9
  have hFc := allFree hD hS hA
  refine va_callv (va_runV (As := [.int 1046, .int (nI (30 + (R1 + 1) * (C1 + 1) + C1))]) (rest := []) ⟨hx, hb, hml, hown, hts⟩ (b_X12_copy l dC dI a k h0 (fT (fT (fT (fT vi 5 (nI C1)) 6 (nI R1)) 7 (nI 2)) 11 0) (fT vj 12 qd1) (fT (fT (fT (fT (fT (fT (fT vF 74 f741) 0 g1) 4 f41) 6 f61) 2 f2w1) 3 f3w1) 5 f51) (fT (fT (fT vG 1 gs1) 7 F1) 8 L81) 1046 (30 + (R1 + 1) * (C1 + 1) + C1) m21 f1_0 (m21 (30 + (R1 + 1) * (C1 + 1) + C1)) rfl (by first | with_reducible assumption | decide | omega | rfl | assumption) (by first | with_reducible assumption | decide | omega | rfl | assumption) (by first | with_reducible assumption | decide | omega | rfl | assumption) H.size) (cwV 2 hts gwsRX12_shortBest_2 rfl rfl rfl hd_yX12_copy_RX12 (by decide +kernel)) (fz_pre (va_recv hK hP (ci := 12) (q0 := 0) rfl rfl) hP hK hD) rfl rfl hl.1 rfl (lv_room (Nat.le_of_ble_eq_true rfl)) dX12_shortBest_23 (by decide +kernel)) hS (fun q _ h => hFc q h) hFc (fun g23 t9_ H locs ht hvm hw9 hB9 hz1 hk1 hS => ?_)
  have hP : va_P (dC, dI) vwCl (WR a k h0 (fT (fT (fT (fT vi 5 (nI C1)) 6 (nI R1)) 7 (nI 2)) 11 0) (fT vj 12 qd1) (fT (fT (fT (fT (fT (fT (fT (fT vF 74 f741) 0 g1) 4 f41) 6 f61) 2 f2w1) 3 f3w1) 5 f51) 0 g23) (fT (fT (fT vG 1 gs1) 7 F1) 8 L81)) H := fz_P ht hB9.1
  have hD : va_D A (WR a k h0 (fT (fT (fT (fT vi 5 (nI C1)) 6 (nI R1)) 7 (nI 2)) 11 0) (fT vj 12 qd1) (fT (fT (fT (fT (fT (fT (fT (fT vF 74 f741) 0 g1) 4 f41) 6 f61) 2 f2w1) 3 f3w1) 5 f51) 0 g23) (fT (fT (fT vG 1 gs1) 7 F1) 8 L81)) := hB9.2.weaken (fun _ q _ h => hFc q.1 h)
  have e9 : fT (fT (fT (fT (fT (fT (fT vF 74 f741) 0 g23) 4 f41) 6 f61) 2 f2w1) 3 f3w1) 5 f51 = fT (fT (fT (fT (fT (fT (fT (fT vF 74 f741) 0 g1) 4 f41) 6 f61) 2 f2w1) 3 f3w1) 5 f51) 0 g23 := ((fT_sw _ _ _ (Nat.ne_of_beq_eq_false rfl)).trans (congrArg (fun g9 => fT g9 5 f51) ((fT_sw _ _ _ (Nat.ne_of_beq_eq_false rfl)).trans (congrArg (fun g9 => fT g9 3 f3w1) ((fT_sw _ _ _ (Nat.ne_of_beq_eq_false rfl)).trans (congrArg (fun g9 => fT g9 2 f2w1) ((fT_sw _ _ _ (Nat.ne_of_beq_eq_false rfl)).trans (congrArg (fun g9 => fT g9 6 f61) ((fT_sw _ _ _ (Nat.ne_of_beq_eq_false rfl)).trans (congrArg (fun g9 => fT g9 4 f41) (fT_sm _ _ _ _))))))))))).symm
  rw [← e9] at hP hD
  clear e9
  have hP : va_P (dC, dI) vwCl (WR a k h0 (fT (fT (fT (fT vi 5 (nI C1)) 6 (nI R1)) 7 (nI 2)) 11 0) (fT vj 12 qd1) (fT (fT (fT (fT (fT (fT (fT vF 74 f741) 0 g23) 4 f41) 6 f61) 2 f2w1) 3 f3w1) 5 f51) (fT (fT (fT vG 1 gs1) 7 F1) 8 L81)) H := hP
  have hD : va_D A (WR a k h0 (fT (fT (fT (fT vi 5 (nI C1)) 6 (nI R1)) 7 (nI 2)) 11 0) (fT vj 12 qd1) (fT (fT (fT (fT (fT (fT (fT vF 74 f741) 0 g23) 4 f41) 6 f61) 2 f2w1) 3 f3w1) 5 f51) (fT (fT (fT vG 1 gs1) 7 F1) 8 L81)) := hD
  have f23_0 := hw9
  try dsimp only at f23_0
  refine lv_aload_n hx hb dX12_shortBest_26 rfl (lv_at hl 0 rfl) ?_
  refine lv_sipush (v := 1047) hx hb dX12_shortBest_27 (by decide) ?_
  refine lv_bipush (v := 20) hx hb dX12_shortBest_30 (by decide) ?_
  refine lv_sipush (v := 1045) hx hb dX12_shortBest_32 (by decide) ?_
  have hFc := allFree hD hS hA
  refine va_callv (va_runV (As := [.int 1047, .int 20, .int 1045]) (rest := []) ⟨hx, hb, hml, hown, hts⟩ (b_X12_times l dC dI a k h0 (fT (fT (fT (fT vi 5 (nI C1)) 6 (nI R1)) 7 (nI 2)) 11 0) (fT vj 12 qd1) (fT (fT (fT (fT (fT (fT (fT vF 74 f741) 0 g23) 4 f41) 6 f61) 2 f2w1) 3 f3w1) 5 f51) (fT (fT (fT vG 1 gs1) 7 F1) 8 L81) 1047 20 1045 (fT m21 1046 (m21 (30 + (R1 + 1) * (C1 + 1) + C1))) f23_0 (m21 20) (m21 1045) (by rw [fT_ne _ _ (by omega)]) (by rw [fT_ne _ _ (by omega)]) (by first | with_reducible assumption | decide | omega | rfl | assumption) (by first | with_reducible assumption | decide | omega | rfl | assumption) (by first | with_reducible assumption | decide | omega | rfl | assumption) (by rw [e45, h20]; exact mulpN (c := 588) f1_2.2 (show (1 : Int).natAbs < 2 ^ 1 by decide) (by decide)) H.size) (cwV 3 hts gwsRX12_shortBest_3 rfl rfl rfl hd_yX12_times_RX12 (by decide +kernel)) (fz_pre (va_recv hK hP (ci := 12) (q0 := 0) rfl rfl) hP hK hD) rfl rfl hl.1 rfl (lv_room (Nat.le_of_ble_eq_true rfl)) dX12_shortBest_35 (by decide +kernel)) hS (fun q _ h => hFc q h) hFc (fun u t9_ H locs ht hvm hw9 hB9 hz1 hk1 hS => ?_)
  revert u
  refine fz_p2 ?_
  intro g35 gs35 hw9 hB9
  try dsimp only at hw9 hB9
  have hP : va_P (dC, dI) vwCl (WR a k h0 (fT (fT (fT (fT vi 5 (nI C1)) 6 (nI R1)) 7 (nI 2)) 11 0) (fT vj 12 qd1) (fT (fT (fT (fT (fT (fT (fT (fT vF 74 f741) 0 g23) 4 f41) 6 f61) 2 f2w1) 3 f3w1) 5 f51) 0 g35) (fT (fT (fT (fT vG 1 gs1) 7 F1) 8 L81) 1 gs35)) H := fz_P ht hB9.1
  have hD : va_D A (WR a k h0 (fT (fT (fT (fT vi 5 (nI C1)) 6 (nI R1)) 7 (nI 2)) 11 0) (fT vj 12 qd1) (fT (fT (fT (fT (fT (fT (fT (fT vF 74 f741) 0 g23) 4 f41) 6 f61) 2 f2w1) 3 f3w1) 5 f51) 0 g35) (fT (fT (fT (fT vG 1 gs1) 7 F1) 8 L81) 1 gs35)) := hB9.2.weaken (fun _ q _ h => hFc q.1 h)
  have e9 : fT (fT (fT (fT (fT (fT (fT vF 74 f741) 0 g35) 4 f41) 6 f61) 2 f2w1) 3 f3w1) 5 f51 = fT (fT (fT (fT (fT (fT (fT (fT vF 74 f741) 0 g23) 4 f41) 6 f61) 2 f2w1) 3 f3w1) 5 f51) 0 g35 := ((fT_sw _ _ _ (Nat.ne_of_beq_eq_false rfl)).trans (congrArg (fun g9 => fT g9 5 f51) ((fT_sw _ _ _ (Nat.ne_of_beq_eq_false rfl)).trans (congrArg (fun g9 => fT g9 3 f3w1) ((fT_sw _ _ _ (Nat.ne_of_beq_eq_false rfl)).trans (congrArg (fun g9 => fT g9 2 f2w1) ((fT_sw _ _ _ (Nat.ne_of_beq_eq_false rfl)).trans (congrArg (fun g9 => fT g9 6 f61) ((fT_sw _ _ _ (Nat.ne_of_beq_eq_false rfl)).trans (congrArg (fun g9 => fT g9 4 f41) (fT_sm _ _ _ _))))))))))).symm
  rw [← e9] at hP hD
  clear e9
  have e9 : fT (fT (fT vG 1 gs35) 7 F1) 8 L81 = fT (fT (fT (fT vG 1 gs1) 7 F1) 8 L81) 1 gs35 := ((fT_sw _ _ _ (Nat.ne_of_beq_eq_false rfl)).trans (congrArg (fun g9 => fT g9 8 L81) ((fT_sw _ _ _ (Nat.ne_of_beq_eq_false rfl)).trans (congrArg (fun g9 => fT g9 7 F1) (fT_sm _ _ _ _))))).symm
  rw [← e9] at hP hD
  clear e9
  have hP : va_P (dC, dI) vwCl (WR a k h0 (fT (fT (fT (fT vi 5 (nI C1)) 6 (nI R1)) 7 (nI 2)) 11 0) (fT vj 12 qd1) (fT (fT (fT (fT (fT (fT (fT vF 74 f741) 0 g35) 4 f41) 6 f61) 2 f2w1) 3 f3w1) 5 f51) (fT (fT (fT vG 1 gs35) 7 F1) 8 L81)) H := hP
  have hD : va_D A (WR a k h0 (fT (fT (fT (fT vi 5 (nI C1)) 6 (nI R1)) 7 (nI 2)) 11 0) (fT vj 12 qd1) (fT (fT (fT (fT (fT (fT (fT vF 74 f741) 0 g35) 4 f41) 6 f61) 2 f2w1) 3 f3w1) 5 f51) (fT (fT (fT vG 1 gs35) 7 F1) 8 L81)) := hD
  have f35_0 := hw9
  try dsimp only at f35_0
  refine lv_aload_n hx hb dX12_shortBest_38 rfl (lv_at hl 0 rfl) ?_
  refine lv_sipush (v := 1046) hx hb dX12_shortBest_39 (by decide) ?_
  refine lv_sipush (v := 1047) hx hb dX12_shortBest_42 (by decide) ?_
  have hFc := allFree hD hS hA
  refine va_callv (va_runV (As := [.int 1046, .int 1047]) (rest := []) ⟨hx, hb, hml, hown, hts⟩ (r_X12_shorten l dC dI a k h0 (fT (fT (fT (fT vi 5 (nI C1)) 6 (nI R1)) 7 (nI 2)) 11 0) (fT vj 12 qd1) (fT (fT (fT (fT (fT (fT (fT vF 74 f741) 0 g35) 4 f41) 6 f61) 2 f2w1) 3 f3w1) 5 f51) (fT (fT (fT vG 1 gs35) 7 F1) 8 L81) 1046 1047 (fT (fT m21 1046 (m21 (30 + (R1 + 1) * (C1 + 1) + C1))) 1047 ((m21 20) * (m21 1045))) f35_0 (m21 (30 + (R1 + 1) * (C1 + 1) + C1)) ((m21 20) * (m21 1045)) (by rw [fT_ne _ _ (by omega), fT_eq]) (by rw [fT_eq]) (by first | with_reducible assumption | decide | omega | rfl | assumption) (by first | with_reducible assumption | decide | omega | rfl | assumption) (by first | with_reducible assumption | decide | omega | rfl | assumption) (by first | with_reducible assumption | decide | omega | rfl | assumption) (by first | with_reducible assumption | decide | omega | rfl | assumption) (n47) H.size) (cwV 2 hts gwsRX12_shortBest_4 rfl rfl rfl hd_yX12_shorten_RX12 (by decide +kernel)) (fz_pre (va_recv hK hP (ci := 12) (q0 := 0) rfl rfl) hP hK hD) rfl rfl hl.1 rfl (lv_room (Nat.le_of_ble_eq_true rfl)) dX12_shortBest_45 (by decide +kernel)) hS (fun q _ h => hFc q h) hFc (fun u t9_ H locs ht hvm hw9 hB9 hz1 hk1 hS => ?_)
  revert u
  refine fz_p5 ?_
  intro g45 f2w45 f3w45 gs45 m245 hw9 hB9
  try dsimp only at hw9 hB9
  have hP : va_P (dC, dI) vwCl (WR a k h0 (fT (fT (fT (fT vi 5 (nI C1)) 6 (nI R1)) 7 (nI 2)) 11 0) (fT vj 12 qd1) (fT (fT (fT (fT (fT (fT (fT (fT (fT (fT vF 74 f741) 0 g35) 4 f41) 6 f61) 2 f2w1) 3 f3w1) 5 f51) 0 g45) 2 f2w45) 3 f3w45) (fT (fT (fT (fT vG 1 gs35) 7 F1) 8 L81) 1 gs45)) H := fz_P ht hB9.1
  have hD : va_D A (WR a k h0 (fT (fT (fT (fT vi 5 (nI C1)) 6 (nI R1)) 7 (nI 2)) 11 0) (fT vj 12 qd1) (fT (fT (fT (fT (fT (fT (fT (fT (fT (fT vF 74 f741) 0 g35) 4 f41) 6 f61) 2 f2w1) 3 f3w1) 5 f51) 0 g45) 2 f2w45) 3 f3w45) (fT (fT (fT (fT vG 1 gs35) 7 F1) 8 L81) 1 gs45)) := hB9.2.weaken (fun _ q _ h => hFc q.1 h)
  have e9 : fT (fT (fT (fT (fT (fT (fT vF 74 f741) 0 g45) 4 f41) 6 f61) 2 f2w45) 3 f3w45) 5 f51 = fT (fT (fT (fT (fT (fT (fT (fT (fT (fT vF 74 f741) 0 g35) 4 f41) 6 f61) 2 f2w1) 3 f3w1) 5 f51) 0 g45) 2 f2w45) 3 f3w45 := ((congrArg (fun g9 => fT (fT g9 2 f2w45) 3 f3w45) ((fT_sw _ _ _ (Nat.ne_of_beq_eq_false rfl)).trans (congrArg (fun g9 => fT g9 5 f51) ((fT_sw _ _ _ (Nat.ne_of_beq_eq_false rfl)).trans (congrArg (fun g9 => fT g9 3 f3w1) ((fT_sw _ _ _ (Nat.ne_of_beq_eq_false rfl)).trans (congrArg (fun g9 => fT g9 2 f2w1) ((fT_sw _ _ _ (Nat.ne_of_beq_eq_false rfl)).trans (congrArg (fun g9 => fT g9 6 f61) ((fT_sw _ _ _ (Nat.ne_of_beq_eq_false rfl)).trans (congrArg (fun g9 => fT g9 4 f41) (fT_sm _ _ _ _)))))))))))).trans ((congrArg (fun g9 => fT g9 3 f3w45) ((fT_sw _ _ _ (Nat.ne_of_beq_eq_false rfl)).trans (congrArg (fun g9 => fT g9 5 f51) ((fT_sw _ _ _ (Nat.ne_of_beq_eq_false rfl)).trans (congrArg (fun g9 => fT g9 3 f3w1) (fT_sm _ _ _ _)))))).trans ((fT_sw _ _ _ (Nat.ne_of_beq_eq_false rfl)).trans (congrArg (fun g9 => fT g9 5 f51) (fT_sm _ _ _ _))))).symm
  rw [← e9] at hP hD
  clear e9
  have e9 : fT (fT (fT vG 1 gs45) 7 F1) 8 L81 = fT (fT (fT (fT vG 1 gs35) 7 F1) 8 L81) 1 gs45 := ((fT_sw _ _ _ (Nat.ne_of_beq_eq_false rfl)).trans (congrArg (fun g9 => fT g9 8 L81) ((fT_sw _ _ _ (Nat.ne_of_beq_eq_false rfl)).trans (congrArg (fun g9 => fT g9 7 F1) (fT_sm _ _ _ _))))).symm
  rw [← e9] at hP hD
  clear e9
  have hP : va_P (dC, dI) vwCl (WR a k h0 (fT (fT (fT (fT vi 5 (nI C1)) 6 (nI R1)) 7 (nI 2)) 11 0) (fT vj 12 qd1) (fT (fT (fT (fT (fT (fT (fT vF 74 f741) 0 g45) 4 f41) 6 f61) 2 f2w45) 3 f3w45) 5 f51) (fT (fT (fT vG 1 gs45) 7 F1) 8 L81)) H := hP
  have hD : va_D A (WR a k h0 (fT (fT (fT (fT vi 5 (nI C1)) 6 (nI R1)) 7 (nI 2)) 11 0) (fT vj 12 qd1) (fT (fT (fT (fT (fT (fT (fT vF 74 f741) 0 g45) 4 f41) 6 f61) 2 f2w45) 3 f3w45) 5 f51) (fT (fT (fT vG 1 gs45) 7 F1) 8 L81)) := hD
  revert hw9
  refine fz_a5 ?_
  intro f45_0 f45_1 f45_2 f45_3 f45_4
  refine lv_aload_n hx hb dX12_shortBest_48 rfl (lv_at hl 0 rfl) ?_
  refine lv_sipush (v := 1050) hx hb dX12_shortBest_49 (by decide) ?_
  refine lv_sipush (v := 1046) hx hb dX12_shortBest_52 (by decide) ?_
  have hFc := allFree hD hS hA
  refine va_callv (va_runV (As := [.int 1050, .int 1046]) (rest := []) ⟨hx, hb, hml, hown, hts⟩ (b_X12_copy l dC dI a k h0 (fT (fT (fT (fT vi 5 (nI C1)) 6 (nI R1)) 7 (nI 2)) 11 0) (fT vj 12 qd1) (fT (fT (fT (fT (fT (fT (fT vF 74 f741) 0 g45) 4 f41) 6 f61) 2 f2w45) 3 f3w45) 5 f51) (fT (fT (fT vG 1 gs45) 7 F1) 8 L81) 1050 1046 m245 f45_0 (m245 1046) rfl (by first | with_reducible assumption | decide | omega | rfl | assumption) (by first | with_reducible assumption | decide | omega | rfl | assumption) (by first | with_reducible assumption | decide | omega | rfl | assumption) H.size) (cwV 2 hts gwsRX12_shortBest_2 rfl rfl rfl hd_yX12_copy_RX12 (by decide +kernel)) (fz_pre (va_recv hK hP (ci := 12) (q0 := 0) rfl rfl) hP hK hD) rfl rfl hl.1 rfl (lv_room (Nat.le_of_ble_eq_true rfl)) dX12_shortBest_55 (by decide +kernel)) hS (fun q _ h => hFc q h) hFc (fun g55 t9_ H locs ht hvm hw9 hB9 hz1 hk1 hS => ?_)
  have hP : va_P (dC, dI) vwCl (WR a k h0 (fT (fT (fT (fT vi 5 (nI C1)) 6 (nI R1)) 7 (nI 2)) 11 0) (fT vj 12 qd1) (fT (fT (fT (fT (fT (fT (fT (fT vF 74 f741) 0 g45) 4 f41) 6 f61) 2 f2w45) 3 f3w45) 5 f51) 0 g55) (fT (fT (fT vG 1 gs45) 7 F1) 8 L81)) H := fz_P ht hB9.1
  have hD : va_D A (WR a k h0 (fT (fT (fT (fT vi 5 (nI C1)) 6 (nI R1)) 7 (nI 2)) 11 0) (fT vj 12 qd1) (fT (fT (fT (fT (fT (fT (fT (fT vF 74 f741) 0 g45) 4 f41) 6 f61) 2 f2w45) 3 f3w45) 5 f51) 0 g55) (fT (fT (fT vG 1 gs45) 7 F1) 8 L81)) := hB9.2.weaken (fun _ q _ h => hFc q.1 h)
  have e9 : fT (fT (fT (fT (fT (fT (fT vF 74 f741) 0 g55) 4 f41) 6 f61) 2 f2w45) 3 f3w45) 5 f51 = fT (fT (fT (fT (fT (fT (fT (fT vF 74 f741) 0 g45) 4 f41) 6 f61) 2 f2w45) 3 f3w45) 5 f51) 0 g55 := ((fT_sw _ _ _ (Nat.ne_of_beq_eq_false rfl)).trans (congrArg (fun g9 => fT g9 5 f51) ((fT_sw _ _ _ (Nat.ne_of_beq_eq_false rfl)).trans (congrArg (fun g9 => fT g9 3 f3w45) ((fT_sw _ _ _ (Nat.ne_of_beq_eq_false rfl)).trans (congrArg (fun g9 => fT g9 2 f2w45) ((fT_sw _ _ _ (Nat.ne_of_beq_eq_false rfl)).trans (congrArg (fun g9 => fT g9 6 f61) ((fT_sw _ _ _ (Nat.ne_of_beq_eq_false rfl)).trans (congrArg (fun g9 => fT g9 4 f41) (fT_sm _ _ _ _))))))))))).symm
  rw [← e9] at hP hD
  clear e9
  have hP : va_P (dC, dI) vwCl (WR a k h0 (fT (fT (fT (fT vi 5 (nI C1)) 6 (nI R1)) 7 (nI 2)) 11 0) (fT vj 12 qd1) (fT (fT (fT (fT (fT (fT (fT vF 74 f741) 0 g55) 4 f41) 6 f61) 2 f2w45) 3 f3w45) 5 f51) (fT (fT (fT vG 1 gs45) 7 F1) 8 L81)) H := hP
  have hD : va_D A (WR a k h0 (fT (fT (fT (fT vi 5 (nI C1)) 6 (nI R1)) 7 (nI 2)) 11 0) (fT vj 12 qd1) (fT (fT (fT (fT (fT (fT (fT vF 74 f741) 0 g55) 4 f41) 6 f61) 2 f2w45) 3 f3w45) 5 f51) (fT (fT (fT vG 1 gs45) 7 F1) 8 L81)) := hD
  have f55_0 := hw9
  try dsimp only at f55_0
  refine lv_aload_n hx hb dX12_shortBest_58 rfl (lv_at hl 0 rfl) ?_
  refine lv_sipush (v := 1051) hx hb dX12_shortBest_59 (by decide) ?_
  refine lv_sipush (v := 1047) hx hb dX12_shortBest_62 (by decide) ?_
  have hFc := allFree hD hS hA
  refine va_callv (va_runV (As := [.int 1051, .int 1047]) (rest := []) ⟨hx, hb, hml, hown, hts⟩ (b_X12_copy l dC dI a k h0 (fT (fT (fT (fT vi 5 (nI C1)) 6 (nI R1)) 7 (nI 2)) 11 0) (fT vj 12 qd1) (fT (fT (fT (fT (fT (fT (fT vF 74 f741) 0 g55) 4 f41) 6 f61) 2 f2w45) 3 f3w45) 5 f51) (fT (fT (fT vG 1 gs45) 7 F1) 8 L81) 1051 1047 (fT m245 1050 (m245 1046)) f55_0 (m245 1047) (by rw [fT_ne _ _ (by omega)]) (by first | with_reducible assumption | decide | omega | rfl | assumption) (by first | with_reducible assumption | decide | omega | rfl | assumption) (by first | with_reducible assumption | decide | omega | rfl | assumption) H.size) (cwV 2 hts gwsRX12_shortBest_2 rfl rfl rfl hd_yX12_copy_RX12 (by decide +kernel)) (fz_pre (va_recv hK hP (ci := 12) (q0 := 0) rfl rfl) hP hK hD) rfl rfl hl.1 rfl (lv_room (Nat.le_of_ble_eq_true rfl)) dX12_shortBest_65 (by decide +kernel)) hS (fun q _ h => hFc q h) hFc (fun g65 t9_ H locs ht hvm hw9 hB9 hz1 hk1 hS => ?_)
  have hP : va_P (dC, dI) vwCl (WR a k h0 (fT (fT (fT (fT vi 5 (nI C1)) 6 (nI R1)) 7 (nI 2)) 11 0) (fT vj 12 qd1) (fT (fT (fT (fT (fT (fT (fT (fT vF 74 f741) 0 g55) 4 f41) 6 f61) 2 f2w45) 3 f3w45) 5 f51) 0 g65) (fT (fT (fT vG 1 gs45) 7 F1) 8 L81)) H := fz_P ht hB9.1
  have hD : va_D A (WR a k h0 (fT (fT (fT (fT vi 5 (nI C1)) 6 (nI R1)) 7 (nI 2)) 11 0) (fT vj 12 qd1) (fT (fT (fT (fT (fT (fT (fT (fT vF 74 f741) 0 g55) 4 f41) 6 f61) 2 f2w45) 3 f3w45) 5 f51) 0 g65) (fT (fT (fT vG 1 gs45) 7 F1) 8 L81)) := hB9.2.weaken (fun _ q _ h => hFc q.1 h)
  have e9 : fT (fT (fT (fT (fT (fT (fT vF 74 f741) 0 g65) 4 f41) 6 f61) 2 f2w45) 3 f3w45) 5 f51 = fT (fT (fT (fT (fT (fT (fT (fT vF 74 f741) 0 g55) 4 f41) 6 f61) 2 f2w45) 3 f3w45) 5 f51) 0 g65 := ((fT_sw _ _ _ (Nat.ne_of_beq_eq_false rfl)).trans (congrArg (fun g9 => fT g9 5 f51) ((fT_sw _ _ _ (Nat.ne_of_beq_eq_false rfl)).trans (congrArg (fun g9 => fT g9 3 f3w45) ((fT_sw _ _ _ (Nat.ne_of_beq_eq_false rfl)).trans (congrArg (fun g9 => fT g9 2 f2w45) ((fT_sw _ _ _ (Nat.ne_of_beq_eq_false rfl)).trans (congrArg (fun g9 => fT g9 6 f61) ((fT_sw _ _ _ (Nat.ne_of_beq_eq_false rfl)).trans (congrArg (fun g9 => fT g9 4 f41) (fT_sm _ _ _ _))))))))))).symm
  rw [← e9] at hP hD
  clear e9
  have hP : va_P (dC, dI) vwCl (WR a k h0 (fT (fT (fT (fT vi 5 (nI C1)) 6 (nI R1)) 7 (nI 2)) 11 0) (fT vj 12 qd1) (fT (fT (fT (fT (fT (fT (fT vF 74 f741) 0 g65) 4 f41) 6 f61) 2 f2w45) 3 f3w45) 5 f51) (fT (fT (fT vG 1 gs45) 7 F1) 8 L81)) H := hP
  have hD : va_D A (WR a k h0 (fT (fT (fT (fT vi 5 (nI C1)) 6 (nI R1)) 7 (nI 2)) 11 0) (fT vj 12 qd1) (fT (fT (fT (fT (fT (fT (fT vF 74 f741) 0 g65) 4 f41) 6 f61) 2 f2w45) 3 f3w45) 5 f51) (fT (fT (fT vG 1 gs45) 7 F1) 8 L81)) := hD
  have f65_0 := hw9
  try dsimp only at f65_0
  refine W.widen (k := 0) (n := 0) (by decide +kernel) (by decide +kernel) ?_
  exact W.vret hx hb hr (fun t9_ ht hW => ⟨⟨(g65, f2w45, f3w45, f41, f51, f61, f741, gs45, F1, L81, qd1, (fT (fT m245 1050 (m245 1046)) 1051 (m245 1047)), (nI C1), (nI R1), (nI 2)), rfl, by (try dsimp only); exact ⟨f65_0, ⟨by rw [fT_ne _ _ (by omega), fT_ne _ _ (by omega)]; exact Nat.lt_of_le_of_lt f45_1 (by rw [hgo]; exact f1_4 (R1 + 1) (by omega)), by rw [fT_ne _ _ (by omega), fT_ne _ _ (by omega)]; exact Nat.lt_of_le_of_lt f45_2 s47⟩, by rw [fT_eq]; exact f45_4, fun q h1 h2 h3 h4 h5 h6 => by (rw [fT_ne _ _ (by omega), fT_ne _ _ (by omega), f45_3 _ (by omega) (by omega) (by omega), fT_ne _ _ (by omega), fT_ne _ _ (by omega), f1_7 _ (by omega) (by omega)])⟩, by rw [ht]; exact hP, hD⟩, hS.F ht⟩) hS.2.2 dX12_shortBest_68
theorem dX12_multipliers_0 : decode cX12_multipliers 0 = .ok (.iconst 0, 1) := dk_3 (by decide +kernel)
theorem dX12_multipliers_1 : decode cX12_multipliers 1 = .ok (.istore_n 1, 1) := dk_60 (by decide +kernel)
theorem dX12_multipliers_2 : decode cX12_multipliers 2 = .ok (.iload_n 1, 1) := dk_27 (by decide +kernel)
theorem dX12_multipliers_3 : decode cX12_multipliers 3 = .ok (.aload_n 0, 1) := dk_42 (by decide +kernel)
theorem dX12_multipliers_4 : decode cX12_multipliers 4 = .ok (.getfield 894, 3) := dk_180 (by decide +kernel)
theorem dX12_multipliers_7 : decode cX12_multipliers 7 = .ok (.if_icmp .ge 95, 3) := dk_162 (by decide +kernel)
theorem dX12_multipliers_10 : decode cX12_multipliers 10 = .ok (.aload_n 0, 1) := dk_42 (by decide +kernel)
theorem dX12_multipliers_11 : decode cX12_multipliers 11 = .ok (.sipush 1060, 3) := dk_17 (by decide +kernel)
theorem dX12_multipliers_14 : decode cX12_multipliers 14 = .ok (.iload_n 1, 1) := dk_27 (by decide +kernel)
theorem dX12_multipliers_15 : decode cX12_multipliers 15 = .ok (.iadd, 1) := dk_96 (by decide +kernel)
theorem dX12_multipliers_16 : decode cX12_multipliers 16 = .ok (.lconst 0, 1) := dk_9 (by decide +kernel)
theorem dX12_multipliers_17 : decode cX12_multipliers 17 = .ok (.invokevirtual 369, 3) := dk_182 (by decide +kernel)
theorem dX12_multipliers_20 : decode cX12_multipliers 20 = .ok (.aload_n 0, 1) := dk_42 (by decide +kernel)
theorem dX12_multipliers_21 : decode cX12_multipliers 21 = .ok (.getfield 242, 3) := dk_180 (by decide +kernel)
theorem dX12_multipliers_24 : decode cX12_multipliers 24 = .ok (.iload_n 1, 1) := dk_27 (by decide +kernel)
theorem dX12_multipliers_25 : decode cX12_multipliers 25 = .ok (.iaload, 1) := dk_46 (by decide +kernel)
theorem dX12_multipliers_26 : decode cX12_multipliers 26 = .ok (.ifCond .ne 6, 3) := dk_154 (by decide +kernel)
theorem dX12_multipliers_29 : decode cX12_multipliers 29 = .ok (.goto 67, 3) := dk_167 (by decide +kernel)
theorem dX12_multipliers_32 : decode cX12_multipliers 32 = .ok (.aload_n 0, 1) := dk_42 (by decide +kernel)
theorem dX12_multipliers_33 : decode cX12_multipliers 33 = .ok (.bipush 22, 2) := dk_16 (by decide +kernel)
theorem dX12_multipliers_35 : decode cX12_multipliers 35 = .ok (.aload_n 0, 1) := dk_42 (by decide +kernel)
theorem dX12_multipliers_36 : decode cX12_multipliers 36 = .ok (.getfield 245, 3) := dk_180 (by decide +kernel)
theorem dX12_multipliers_39 : decode cX12_multipliers 39 = .ok (.iload_n 1, 1) := dk_27 (by decide +kernel)
theorem dX12_multipliers_40 : decode cX12_multipliers 40 = .ok (.iaload, 1) := dk_46 (by decide +kernel)
theorem dX12_multipliers_41 : decode cX12_multipliers 41 = .ok (.invokevirtual 856, 3) := dk_182 (by decide +kernel)
theorem dX12_multipliers_44 : decode cX12_multipliers 44 = .ok (.aload_n 0, 1) := dk_42 (by decide +kernel)
theorem dX12_multipliers_45 : decode cX12_multipliers 45 = .ok (.iload_n 1, 1) := dk_27 (by decide +kernel)
theorem dX12_multipliers_46 : decode cX12_multipliers 46 = .ok (.invokevirtual 900, 3) := dk_182 (by decide +kernel)
theorem dX12_multipliers_49 : decode cX12_multipliers 49 = .ok (.ifCond .eq 36, 3) := dk_153 (by decide +kernel)
theorem dX12_multipliers_52 : decode cX12_multipliers 52 = .ok (.aload_n 0, 1) := dk_42 (by decide +kernel)
theorem dX12_multipliers_53 : decode cX12_multipliers 53 = .ok (.bipush 23, 2) := dk_16 (by decide +kernel)
theorem dX12_multipliers_55 : decode cX12_multipliers 55 = .ok (.aload_n 0, 1) := dk_42 (by decide +kernel)
theorem dX12_multipliers_56 : decode cX12_multipliers 56 = .ok (.getfield 245, 3) := dk_180 (by decide +kernel)
theorem dX12_multipliers_59 : decode cX12_multipliers 59 = .ok (.iload_n 1, 1) := dk_27 (by decide +kernel)
theorem dX12_multipliers_60 : decode cX12_multipliers 60 = .ok (.iaload, 1) := dk_46 (by decide +kernel)
theorem dX12_multipliers_61 : decode cX12_multipliers 61 = .ok (.iconst 1, 1) := dk_4 (by decide +kernel)
theorem dX12_multipliers_62 : decode cX12_multipliers 62 = .ok (.iadd, 1) := dk_96 (by decide +kernel)
theorem dX12_multipliers_63 : decode cX12_multipliers 63 = .ok (.invokevirtual 856, 3) := dk_182 (by decide +kernel)
theorem dX12_multipliers_66 : decode cX12_multipliers 66 = .ok (.aload_n 0, 1) := dk_42 (by decide +kernel)
theorem dX12_multipliers_67 : decode cX12_multipliers 67 = .ok (.bipush 24, 2) := dk_16 (by decide +kernel)
theorem dX12_multipliers_69 : decode cX12_multipliers 69 = .ok (.bipush 22, 2) := dk_16 (by decide +kernel)
theorem dX12_multipliers_71 : decode cX12_multipliers 71 = .ok (.bipush 23, 2) := dk_16 (by decide +kernel)
theorem dX12_multipliers_73 : decode cX12_multipliers 73 = .ok (.iconst (-1), 1) := dk_2 (by decide +kernel)
theorem dX12_multipliers_74 : decode cX12_multipliers 74 = .ok (.invokevirtual 443, 3) := dk_182 (by decide +kernel)
theorem dX12_multipliers_77 : decode cX12_multipliers 77 = .ok (.aload_n 0, 1) := dk_42 (by decide +kernel)
theorem dX12_multipliers_78 : decode cX12_multipliers 78 = .ok (.bipush 22, 2) := dk_16 (by decide +kernel)
theorem dX12_multipliers_80 : decode cX12_multipliers 80 = .ok (.bipush 24, 2) := dk_16 (by decide +kernel)
theorem dX12_multipliers_82 : decode cX12_multipliers 82 = .ok (.invokevirtual 365, 3) := dk_182 (by decide +kernel)
theorem dX12_multipliers_85 : decode cX12_multipliers 85 = .ok (.aload_n 0, 1) := dk_42 (by decide +kernel)
theorem dX12_multipliers_86 : decode cX12_multipliers 86 = .ok (.sipush 1060, 3) := dk_17 (by decide +kernel)
theorem dX12_multipliers_89 : decode cX12_multipliers 89 = .ok (.iload_n 1, 1) := dk_27 (by decide +kernel)
theorem dX12_multipliers_90 : decode cX12_multipliers 90 = .ok (.iadd, 1) := dk_96 (by decide +kernel)
theorem dX12_multipliers_91 : decode cX12_multipliers 91 = .ok (.bipush 22, 2) := dk_16 (by decide +kernel)
theorem dX12_multipliers_93 : decode cX12_multipliers 93 = .ok (.invokevirtual 365, 3) := dk_182 (by decide +kernel)
theorem dX12_multipliers_96 : decode cX12_multipliers 96 = .ok (.iinc 1 1, 3) := dk_132 (by decide +kernel)
theorem dX12_multipliers_99 : decode cX12_multipliers 99 = .ok (.goto (-97), 3) := dk_167 (by decide +kernel)
theorem dX12_multipliers_102 : decode cX12_multipliers 102 = .ok (.aload_n 0, 1) := dk_42 (by decide +kernel)
theorem dX12_multipliers_103 : decode cX12_multipliers 103 = .ok (.sipush 1052, 3) := dk_17 (by decide +kernel)
theorem dX12_multipliers_106 : decode cX12_multipliers 106 = .ok (.bipush 20, 2) := dk_16 (by decide +kernel)
theorem dX12_multipliers_108 : decode cX12_multipliers 108 = .ok (.sipush 1045, 3) := dk_17 (by decide +kernel)
theorem dX12_multipliers_111 : decode cX12_multipliers 111 = .ok (.invokevirtual 390, 3) := dk_182 (by decide +kernel)
theorem dX12_multipliers_114 : decode cX12_multipliers 114 = .ok (.return_, 1) := dk_177 (by decide +kernel)
def wsRX12_multipliers : List Cond := .code yX12_multipliers cX12_multipliers 2 none :: ([.fieldLink RX12 894 "OptimaWorksModel" "needs" "I", .fieldLink RX12 242 "OptimaWorksModel" "needKept" "[I", .fieldLink RX12 245 "OptimaWorksModel" "needColumn" "[I"] ++ wsX120 ++ (wsV RX12 390 RX12 yX12_times wsRX12_times) ++ (wsV RX12 369 RX12 yX12_put wsRX12_put) ++ (wsV RX12 856 RX12 yX12_thing wsRX12_thing) ++ (wsV RX12 900 RX12 yX12_isEqual wsRX12_isEqual) ++ (wsV RX12 443 RX12 yX12_add wsRX12_add) ++ (wsV RX12 365 RX12 yX12_copy wsRX12_copy))
theorem iwsRX12_multipliers_in12 : ∀ w ∈ wsX120, w ∈ wsRX12_multipliers := fun _ h => List.mem_cons_of_mem _ (List.mem_append_left _ (List.mem_append_left _ (List.mem_append_left _ (List.mem_append_left _ (List.mem_append_left _ (List.mem_append_left _ (List.mem_append_right _ h)))))))
theorem gwsRX12_multipliers_0 : GoodIn wsRX12_multipliers (wsV RX12 390 RX12 yX12_times wsRX12_times) := goodIn_sub (fun _ h => List.mem_cons_of_mem _ (List.mem_append_left _ (List.mem_append_left _ (List.mem_append_left _ (List.mem_append_left _ (List.mem_append_left _ (List.mem_append_right _ h))))))) (gdV (by decide +kernel) gdwsRX12_times)
theorem gwsRX12_multipliers_1 : GoodIn wsRX12_multipliers (wsV RX12 369 RX12 yX12_put wsRX12_put) := goodIn_sub (fun _ h => List.mem_cons_of_mem _ (List.mem_append_left _ (List.mem_append_left _ (List.mem_append_left _ (List.mem_append_left _ (List.mem_append_right _ h)))))) (gdV (by decide +kernel) gdwsRX12_put)
theorem gwsRX12_multipliers_2 : GoodIn wsRX12_multipliers (wsV RX12 856 RX12 yX12_thing wsRX12_thing) := goodIn_sub (fun _ h => List.mem_cons_of_mem _ (List.mem_append_left _ (List.mem_append_left _ (List.mem_append_left _ (List.mem_append_right _ h))))) (gdV (by decide +kernel) gdwsRX12_thing)
theorem gwsRX12_multipliers_3 : GoodIn wsRX12_multipliers (wsV RX12 900 RX12 yX12_isEqual wsRX12_isEqual) := goodIn_sub (fun _ h => List.mem_cons_of_mem _ (List.mem_append_left _ (List.mem_append_left _ (List.mem_append_right _ h)))) (gdV (by decide +kernel) gdwsRX12_isEqual)
theorem gwsRX12_multipliers_4 : GoodIn wsRX12_multipliers (wsV RX12 443 RX12 yX12_add wsRX12_add) := goodIn_sub (fun _ h => List.mem_cons_of_mem _ (List.mem_append_left _ (List.mem_append_right _ h))) (gdV (by decide +kernel) gdwsRX12_add)
theorem gwsRX12_multipliers_5 : GoodIn wsRX12_multipliers (wsV RX12 365 RX12 yX12_copy wsRX12_copy) := goodIn_sub (fun _ h => List.mem_cons_of_mem _ (List.mem_append_right _ h)) (gdV (by decide +kernel) gdwsRX12_copy)
theorem gdwsRX12_multipliers : wsRX12_multipliers.all goodWord = true := gdC rfl (gdA (gdA (gdA (gdA (gdA (gdA (gdA (by decide +kernel : ([.fieldLink RX12 894 "OptimaWorksModel" "needs" "I", .fieldLink RX12 242 "OptimaWorksModel" "needKept" "[I", .fieldLink RX12 245 "OptimaWorksModel" "needColumn" "[I"] : List Cond).all goodWord = true) gdwsX120) (gdV (by decide +kernel) gdwsRX12_times)) (gdV (by decide +kernel) gdwsRX12_put)) (gdV (by decide +kernel) gdwsRX12_thing)) (gdV (by decide +kernel) gdwsRX12_isEqual)) (gdV (by decide +kernel) gdwsRX12_add)) (gdV (by decide +kernel) gdwsRX12_copy))
set_option maxHeartbeats 4000000 in
set_option maxRecDepth 100000 in
/-- multipliers() -/
theorem r_X12_multipliers (l : Launch) (dC : Nat → ClassId) (dI : Nat → Nat → Nat) (a : Nat → Nat) (k : Nat → ClassId) (h0 : Nat) (vi : Nat → Int32) (vj : Nat → Int64) (vF : Nat → Nat → Int32) (vG : Nat → Nat → Int64) (C : Nat) (R : Nat) (Gq : Nat) (t : Nat → Nat → Int) (D : Int) (vn : Nat) (mr : Nat) (z : Nat) (nd : Nat) (mg : Nat → Int) (hBg : Bg (vF 0) mg) (hC : vi 5 = nI C) (hR : vi 6 = nI R) (hG : vi 7 = nI Gq) (hC45 : 0 < C ∧ C ≤ 45) (hT60 : R + Gq < 60) (hsz : (R + Gq) * (C + 1) ≤ 970) (hTN : TabN C (R + Gq) mg t D) (hbt : ∀ i, i < R → Sz 258 (t i C)) (hDp : 0 < D ∧ Sz 258 D) (h45 : 0 < mg 1045 ∧ Sz 67 (mg 1045)) (hvn8 : vn ≤ 8) (hmr12 : mr ≤ 12) (hnd : vi 119 = nI nd) (hN : NdO (vF 71) (vF 72) vn mr z nd) (sz : Nat) : Met l yX12_multipliers wsRX12_multipliers ({ frames := 2, cells := 0, slots := 0, locals := 63 }) (va_Pc [.ref h0] (fun U => U.heap.size = sz ∧ va_P (dC, dI) vwCl (WR a k h0 vi vj vF vG) U.heap ∧ va_K (dC, dI) vwCl (tX12 k) U ∧ va_D (fun _ => True) (WR a k h0 vi vj vF vG))) (va_Qv (fun (u : (Nat → Int32) × (Nat → Int64) × (Nat → Int)) => (Bg (u.1) (u.2.2)) ∧ (0 < (u.2.2) 1052) ∧ (∀ q, 1000 ≤ q → (q < 1060 ∨ 1088 ≤ q) → q ≠ 1052 → (u.2.2) q = mg q)) (fun (u : (Nat → Int32) × (Nat → Int64) × (Nat → Int)) t => va_P (dC, dI) vwCl (WR a k h0 vi vj (fT vF 0 (u.1)) (fT vG 1 (u.2.1))) t.heap ∧ va_D (va_A (WR a k h0 vi vj vF vG) sz) (WR a k h0 vi vj (fT vF 0 (u.1)) (fT vG 1 (u.2.1)))) (va_A (WR a k h0 vi vj vF vG) sz)) 0 0 (va_A (WR a k h0 vi vj vF vG) sz) := by
  refine Met.ofW (cc := cX12_multipliers) (maxL := 2) (ret := none) (by decide) rfl ?_
  intro p e s m args below meth c s₁ B hml hv
  obtain ⟨rfl, hsz, hP, hK, hD0⟩ := hv
  have hx := B.exec
  have hb := B.bytes
  have hr := B.returns
  have hts := atoms_spec (ws := wsRX12_multipliers) B.pre
  have hown : s.vm.findClass RX12 = some m.cls := findClass_of_methodNamed B.named
  have hlocks := B.notSynchronized
  subst hsz
  have hD := hD0.self (sz := s.heap.size)
  generalize hAe : va_A (WR a k h0 vi vj vF vG) s.heap.size = A at hD ⊢
  have hA : ∀ q : Nat, s.heap.size ≤ q → A q := fun q h => by rw [← hAe]; exact Or.inr h
  have hS : va_S A s.heap s.heap [] := va_S.rf
  have hl := lv_entry ([.ref h0]) (n := 2) (Nat.le_of_ble_eq_true rfl)
  rw [lg_entry_eq]
  generalize (lg_sl ([.ref h0]) ++ List.replicate (2 - (lg_sl ([.ref h0])).length) Slot.unset).toArray = ls at hl ⊢
  have hl : lv_has ls 2 [(0, .ref h0)] := hl
  have hz1 : nd ≤ 28 := by have h1 := hN.1; have h2 := hN.2.2.1; omega
  refine lv_iconst (v := 0) hx hb dX12_multipliers_0 (by decide) ?_
  refine lv_istore_n hx hb dX12_multipliers_1 rfl hl (by decide) rfl (fun ls (hl : lv_has ls _ ([(1, .int 0), (0, .ref h0)])) => ?_)
  have e9 : fT vF 0 (vF 0) = vF := by funext q9; by_cases h9_0 : q9 = 0; (subst h9_0; exact (fT_eq _ _ _).trans (Eq.trans (by first | with_reducible rfl | with_reducible assumption | (symm; with_reducible assumption) | rfl | assumption | (symm; assumption) | (subst_vars; rfl)) (Eq.refl _).symm)); exact (fT_ne _ _ h9_0).trans (Eq.refl _).symm
  have hP : va_P (dC, dI) vwCl (WR a k h0 vi vj (fT vF 0 (vF 0)) vG) s.heap := by rw [e9]; exact hP
  have hD : va_D A (WR a k h0 vi vj (fT vF 0 (vF 0)) vG) := by rw [e9]; exact hD
  clear e9
  have e9 : fT vG 1 (vG 1) = vG := by funext q9; by_cases h9_1 : q9 = 1; (subst h9_1; exact (fT_eq _ _ _).trans (Eq.trans (by first | with_reducible rfl | with_reducible assumption | (symm; with_reducible assumption) | rfl | assumption | (symm; assumption) | (subst_vars; rfl)) (Eq.refl _).symm)); exact (fT_ne _ _ h9_1).trans (Eq.refl _).symm
  have hP : va_P (dC, dI) vwCl (WR a k h0 vi vj (fT vF 0 (vF 0)) (fT vG 1 (vG 1))) s.heap := by rw [e9]; exact hP
  have hD : va_D A (WR a k h0 vi vj (fT vF 0 (vF 0)) (fT vG 1 (vG 1))) := by rw [e9]; exact hD
  clear e9
  have hl : lv_has _ _ ([(0, .ref h0), (1, .int (nI 0))]) := lv_sub hl [1, 0] rfl
  refine (fun (loop : ∀ (n9 : Nat) (i5 : Nat) (g1 : Nat → Int32) (gs1 : Nat → Int64) (m1 : Nat → Int) (H : Heap) (locs : List Loc) (ls : Array Slot), (Bg g1 m1) → (i5 ≤ nd) → (∀ q, q ≠ 22 → q ≠ 23 → q ≠ 24 → (q < 1060 ∨ 1088 ≤ q) → m1 q = mg q) →  (nd < i5 + n9) → va_P (dC, dI) vwCl (WR a k h0 vi vj (fT vF 0 g1) (fT vG 1 gs1)) H → va_D A (WR a k h0 vi vj (fT vF 0 g1) (fT vG 1 gs1)) → va_S A s.heap H locs → lv_has ls 2 [(0, .ref h0), (1, .int (nI i5))] → W p l e _ s m _ below meth c H locs 0 0 _ (F0 m 2 ls [])) => loop (nd + 1) 0 (vF 0) (vG 1) mg _ _ _ (hBg) (by omega) (fun q _ _ _ _ => rfl) (by omega) hP hD hS hl) ?_
  intro n9
  induction n9 with
  | zero => intro i5 g1 gs1 m1 H locs ls hB1 hi5 ho hf9; exact False.elim (by omega)
  | succ n9 ih2 =>
    intro i5 g1 gs1 m1 H locs ls hB1 hi5 ho hf2 hP hD hS hl
    refine lv_iload_n hx hb dX12_multipliers_2 rfl (lv_at hl 1 rfl) ?_
    refine lv_aload_n hx hb dX12_multipliers_3 rfl (lv_at hl 0 rfl) ?_
    refine va_get (D := (dC, dI)) (ci := 12) (v := .int (vi 119)) (C := RX12) (T := TX12) (N := 163) (fs := fM (vS a vi vj)) hx hb hts iwsRX12_multipliers_in12 hown hK hP 0 rfl rfl 119 (by decide) (hts (.fieldLink RX12 894 "OptimaWorksModel" "needs" "I") (by decide +kernel)) (fun _ h9 => h9) rfl dX12_multipliers_4 ?_
    refine lv_topi (fun y1 hy1 => ?_)
    obtain rfl : (nI nd) = y1 := (hy1.trans (hnd)).symm
    refine lv_icmp_ge (tgt := 102) hx hb dX12_multipliers_7 (by decide) (fun c_7 => ?_) (fun c_7 => ?_)
    · have t_7 : ((i5 : Nat) : Int) ≥ ((nd : Nat) : Int) := toI_ge c_7 (nI_toInt (by omega)) (nI_toInt (by omega))
      refine lv_aload_n hx hb dX12_multipliers_102 rfl (lv_at hl 0 rfl) ?_
      refine lv_sipush (v := 1052) hx hb dX12_multipliers_103 (by decide) ?_
      refine lv_bipush (v := 20) hx hb dX12_multipliers_106 (by decide) ?_
      refine lv_sipush (v := 1045) hx hb dX12_multipliers_108 (by decide) ?_
      have hFc := allFree hD hS hA
      refine va_callv (va_runV (As := [.int 1052, .int 20, .int 1045]) (rest := []) ⟨hx, hb, hml, hown, hts⟩ (b_X12_times l dC dI a k h0 vi vj (fT vF 0 g1) (fT vG 1 gs1) 1052 20 1045 m1 hB1 (m1 20) (m1 1045) rfl rfl (by first | with_reducible assumption | decide | omega | rfl | assumption) (by first | with_reducible assumption | decide | omega | rfl | assumption) (by first | with_reducible assumption | decide | omega | rfl | assumption) (by rw [ho 20 (by omega) (by omega) (by omega) (by omega), ho 1045 (by omega) (by omega) (by omega) (by omega), hTN.2]; exact mulpN (c := 588) hDp.2 h45.2 (by decide)) H.size) (cwV 3 hts gwsRX12_multipliers_0 rfl rfl rfl hd_yX12_times_RX12 (by decide +kernel)) (fz_pre (va_recv hK hP (ci := 12) (q0 := 0) rfl rfl) hP hK hD) rfl rfl hl.1 rfl (lv_room (Nat.le_of_ble_eq_true rfl)) dX12_multipliers_111 (by decide +kernel)) hS (fun q _ h => hFc q h) hFc (fun u t9_ H locs ht hvm hw9 hB9 hz1 hk1 hS => ?_)
      revert u
      refine fz_p2 ?_
      intro g111 gs111 hw9 hB9
      try dsimp only at hw9 hB9
      have hP : va_P (dC, dI) vwCl (WR a k h0 vi vj (fT (fT vF 0 g1) 0 g111) (fT (fT vG 1 gs1) 1 gs111)) H := fz_P ht hB9.1
      have hD : va_D A (WR a k h0 vi vj (fT (fT vF 0 g1) 0 g111) (fT (fT vG 1 gs1) 1 gs111)) := hB9.2.weaken (fun _ q _ h => hFc q.1 h)
      have e9 : fT vF 0 g111 = fT (fT vF 0 g1) 0 g111 := (fT_sm _ _ _ _).symm
      rw [← e9] at hP hD
      clear e9
      have e9 : fT vG 1 gs111 = fT (fT vG 1 gs1) 1 gs111 := (fT_sm _ _ _ _).symm
      rw [← e9] at hP hD
      clear e9
      have hP : va_P (dC, dI) vwCl (WR a k h0 vi vj (fT vF 0 g111) (fT vG 1 gs111)) H := hP
      have hD : va_D A (WR a k h0 vi vj (fT vF 0 g111) (fT vG 1 gs111)) := hD
      have f111_0 := hw9
      try dsimp only at f111_0
      refine W.widen (k := 0) (n := 0) (by decide +kernel) (by decide +kernel) ?_
      exact W.vret hx hb hr (fun t9_ ht hW => ⟨⟨(g111, gs111, (fT m1 1052 ((m1 20) * (m1 1045)))), rfl, by (try dsimp only); exact ⟨f111_0, by rw [fT_eq, ho 20 (by omega) (by omega) (by omega) (by omega), ho 1045 (by omega) (by omega) (by omega) (by omega), hTN.2]; exact Int.mul_pos hDp.1 h45.1, fun q h1 h2 h3 => by (rw [fT_ne _ _ (by omega)]); exact ho q (by omega) (by omega) (by omega) h2⟩, by rw [ht]; exact hP, hD⟩, hS.F ht⟩) hS.2.2 dX12_multipliers_114
    · have t_7 : ¬ ((i5 : Nat) : Int) ≥ ((nd : Nat) : Int) := toI_nge c_7 (nI_toInt (by omega)) (nI_toInt (by omega))
      refine lv_aload_n hx hb dX12_multipliers_10 rfl (lv_at hl 0 rfl) ?_
      refine lv_sipush (v := 1060) hx hb dX12_multipliers_11 (by decide) ?_
      refine lv_iload_n hx hb dX12_multipliers_14 rfl (lv_at hl 1 rfl) ?_
      refine lv_iadd hx hb dX12_multipliers_15 ?_
      refine lv_topi (fun y2 hy2 => ?_)
      obtain rfl : (nI (1060 + i5)) = y2 := (hy2.trans (nI_add 1060 i5)).symm
      refine lv_lconst (v := 0) hx hb dX12_multipliers_16 (by decide) ?_
      have hFc := allFree hD hS hA
      refine va_callv (va_runV (As := [.int (nI (1060 + i5)), .long 0]) (rest := []) ⟨hx, hb, hml, hown, hts⟩ (b_X12_put l dC dI a k h0 vi vj (fT vF 0 g1) (fT vG 1 gs1) (1060 + i5) 0 0 m1 hB1 (by first | with_reducible assumption | decide | omega | rfl | assumption) (by decide) (by first | with_reducible assumption | decide | omega | rfl | assumption) H.size) (cwV 2 hts gwsRX12_multipliers_1 rfl rfl rfl hd_yX12_put_RX12 (by decide +kernel)) (fz_pre (va_recv hK hP (ci := 12) (q0 := 0) rfl rfl) hP hK hD) rfl rfl hl.1 rfl (lv_room (Nat.le_of_ble_eq_true rfl)) dX12_multipliers_17 (by decide +kernel)) hS (fun q _ h => hFc q h) hFc (fun g17 t9_ H locs ht hvm hw9 hB9 hz1 hk1 hS => ?_)
      have hP : va_P (dC, dI) vwCl (WR a k h0 vi vj (fT (fT vF 0 g1) 0 g17) (fT vG 1 gs1)) H := fz_P ht hB9.1
      have hD : va_D A (WR a k h0 vi vj (fT (fT vF 0 g1) 0 g17) (fT vG 1 gs1)) := hB9.2.weaken (fun _ q _ h => hFc q.1 h)
      have e9 : fT vF 0 g17 = fT (fT vF 0 g1) 0 g17 := (fT_sm _ _ _ _).symm
      rw [← e9] at hP hD
      clear e9
      have hP : va_P (dC, dI) vwCl (WR a k h0 vi vj (fT vF 0 g17) (fT vG 1 gs1)) H := hP
      have hD : va_D A (WR a k h0 vi vj (fT vF 0 g17) (fT vG 1 gs1)) := hD
      have f17_0 := hw9
      try dsimp only at f17_0
      refine lv_aload_n hx hb dX12_multipliers_20 rfl (lv_at hl 0 rfl) ?_
      refine va_get (D := (dC, dI)) (ci := 12) (v := .ref (a 73)) (C := RX12) (T := TX12) (N := 163) (fs := fM (vS a vi vj)) hx hb hts iwsRX12_multipliers_in12 hown hK hP 0 rfl rfl 122 (by decide) (hts (.fieldLink RX12 242 "OptimaWorksModel" "needKept" "[I") (by decide +kernel)) (fun _ h9 => h9) rfl dX12_multipliers_21 ?_
      refine lv_iload_n hx hb dX12_multipliers_24 rfl (lv_at hl 1 rfl) ?_
      refine va_iald (cA := k 73) (n := 28) (f := (vF 73)) hx hb hK hP 74 73 (WR_get 73 (by decide)) (TR_get 73 (by decide)) (vp_in_nI (show i5 < 28 by omega) (by omega)) dX12_multipliers_25 ?_
      refine lv_topi (fun y3 hy3 => ?_)
      obtain rfl : ((vF 73) i5) = y3 := (hy3.trans (by rw [nI_clamp (by omega)])).symm
      refine lv_if_ne (tgt := 32) hx hb dX12_multipliers_26 (by decide) (fun c_26 => ?_) (fun c_26 => ?_)
      · have t_26 : (((vF 73) i5)).toInt ≠ 0 := toI_ne c_26 rfl (by decide)
        refine lv_aload_n hx hb dX12_multipliers_32 rfl (lv_at hl 0 rfl) ?_
        refine lv_bipush (v := 22) hx hb dX12_multipliers_33 (by decide) ?_
        refine lv_aload_n hx hb dX12_multipliers_35 rfl (lv_at hl 0 rfl) ?_
        refine va_get (D := (dC, dI)) (ci := 12) (v := .ref (a 74)) (C := RX12) (T := TX12) (N := 163) (fs := fM (vS a vi vj)) hx hb hts iwsRX12_multipliers_in12 hown hK hP 0 rfl rfl 123 (by decide) (hts (.fieldLink RX12 245 "OptimaWorksModel" "needColumn" "[I") (by decide +kernel)) (fun _ h9 => h9) rfl dX12_multipliers_36 ?_
        refine lv_iload_n hx hb dX12_multipliers_39 rfl (lv_at hl 1 rfl) ?_
        refine va_iald (cA := k 74) (n := 28) (f := (vF 74)) hx hb hK hP 75 74 (WR_get 74 (by decide)) (TR_get 74 (by decide)) (vp_in_nI (show i5 < 28 by omega) (by omega)) dX12_multipliers_40 ?_
        refine lv_topi (fun y4 hy4 => ?_)
        obtain rfl : ((vF 74) i5) = y4 := (hy4.trans (by rw [nI_clamp (by omega)])).symm
        have hFc := allFree hD hS hA
        refine va_callv (va_runV (As := [.int 22, .int ((vF 74) i5)]) (rest := []) ⟨hx, hb, hml, hown, hts⟩ (r_X12_thing l dC dI a k h0 vi vj (fT vF 0 g17) (fT vG 1 gs1) 22 ((vF 74) i5) C R Gq t D (fT m1 (1060 + i5) 0) f17_0 (by first | with_reducible assumption | decide | omega | rfl | assumption) (by first | with_reducible assumption | decide | omega | rfl | assumption) (by first | with_reducible assumption | decide | omega | rfl | assumption) (by first | with_reducible assumption | decide | omega | rfl | assumption) (by first | with_reducible assumption | decide | omega | rfl | assumption) (by first | with_reducible assumption | decide | omega | rfl | assumption) (hTN.framez hsz (fun p hp => by (rw [fT_ne _ _ (by omega)]); exact ho p (by omega) (by omega) (by omega) (by omega))) (by first | with_reducible assumption | decide | omega | rfl | assumption) (by first | with_reducible assumption | decide | omega | rfl | assumption) H.size) (cwV 2 hts gwsRX12_multipliers_2 rfl rfl rfl hd_yX12_thing_RX12 (by decide +kernel)) (fz_pre (va_recv hK hP (ci := 12) (q0 := 0) rfl rfl) hP hK hD) rfl rfl hl.1 rfl (lv_room (Nat.le_of_ble_eq_true rfl)) dX12_multipliers_41 (by decide +kernel)) hS (fun q _ h => hFc q h) hFc (fun u t9_ H locs ht hvm hw9 hB9 hz1 hk1 hS => ?_)
        revert u
        refine fz_p2 ?_
        intro g41 m241 hw9 hB9
        try dsimp only at hw9 hB9
        have hP : va_P (dC, dI) vwCl (WR a k h0 vi vj (fT (fT vF 0 g17) 0 g41) (fT vG 1 gs1)) H := fz_P ht hB9.1
        have hD : va_D A (WR a k h0 vi vj (fT (fT vF 0 g17) 0 g41) (fT vG 1 gs1)) := hB9.2.weaken (fun _ q _ h => hFc q.1 h)
        have e9 : fT vF 0 g41 = fT (fT vF 0 g17) 0 g41 := (fT_sm _ _ _ _).symm
        rw [← e9] at hP hD
        clear e9
        have hP : va_P (dC, dI) vwCl (WR a k h0 vi vj (fT vF 0 g41) (fT vG 1 gs1)) H := hP
        have hD : va_D A (WR a k h0 vi vj (fT vF 0 g41) (fT vG 1 gs1)) := hD
        revert hw9
        refine fz_a3 ?_
        intro f41_0 f41_1 f41_2
        have s22 : Sz 258 (m241 22) := by rcases f41_1 with h9 | ⟨i9, hi9, h9⟩; (rw [h9]; exact (by decide : (0 : Int).natAbs < 2 ^ 258)); (rw [h9]; exact hbt i9 hi9)
        refine lv_aload_n hx hb dX12_multipliers_44 rfl (lv_at hl 0 rfl) ?_
        refine lv_iload_n hx hb dX12_multipliers_45 rfl (lv_at hl 1 rfl) ?_
        have hFc := allFree hD hS hA
        refine va_calli (va_runV (As := [.int (nI i5)]) (rest := []) ⟨hx, hb, hml, hown, hts⟩ (r_X12_isEqual l dC dI a k h0 vi vj (fT vF 0 g41) (fT vG 1 gs1) i5 vn mr z nd (hN) (by first | with_reducible assumption | decide | omega | rfl | assumption) (by first | with_reducible assumption | decide | omega | rfl | assumption) (by first | with_reducible assumption | decide | omega | rfl | assumption) H.size) (cwV 1 hts gwsRX12_multipliers_3 rfl rfl rfl hd_yX12_isEqual_RX12 (by decide +kernel)) (fz_pre (va_recv hK hP (ci := 12) (q0 := 0) rfl rfl) hP hK hD) rfl rfl hl.1 rfl (lv_room (Nat.le_of_ble_eq_true rfl)) dX12_multipliers_46 (by decide +kernel)) hS (fun q _ h => hFc q h) hFc (fun r46 u t9_ H locs ht hvm hw9 hB9 hz1 hk1 hS => ?_)
        have hP : va_P (dC, dI) vwCl (WR a k h0 vi vj (fT vF 0 g41) (fT vG 1 gs1)) H := fz_P ht hB9.1
        have hD : va_D A (WR a k h0 vi vj (fT vF 0 g41) (fT vG 1 gs1)) := hB9.2.weaken (fun _ q _ h => hFc q.1 h)
        rcases hw9 with ⟨rfl, f46_0⟩ | ⟨rfl, f46_0⟩
        · have f46_0 : EqP (vF 61) (vF 71) (vF 72) i5 := f46_0
          refine lv_if_eq (tgt := 85) hx hb dX12_multipliers_49 (by decide) (fun c9 => absurd c9 (by decide)) (fun _ => ?_)
          refine lv_aload_n hx hb dX12_multipliers_52 rfl (lv_at hl 0 rfl) ?_
          refine lv_bipush (v := 23) hx hb dX12_multipliers_53 (by decide) ?_
          refine lv_aload_n hx hb dX12_multipliers_55 rfl (lv_at hl 0 rfl) ?_
          refine va_get (D := (dC, dI)) (ci := 12) (v := .ref (a 74)) (C := RX12) (T := TX12) (N := 163) (fs := fM (vS a vi vj)) hx hb hts iwsRX12_multipliers_in12 hown hK hP 0 rfl rfl 123 (by decide) (hts (.fieldLink RX12 245 "OptimaWorksModel" "needColumn" "[I") (by decide +kernel)) (fun _ h9 => h9) rfl dX12_multipliers_56 ?_
          refine lv_iload_n hx hb dX12_multipliers_59 rfl (lv_at hl 1 rfl) ?_
          refine va_iald (cA := k 74) (n := 28) (f := (vF 74)) hx hb hK hP 75 74 (WR_get 74 (by decide)) (TR_get 74 (by decide)) (vp_in_nI (show i5 < 28 by omega) (by omega)) dX12_multipliers_60 ?_
          refine lv_topi (fun y5 hy5 => ?_)
          obtain rfl : ((vF 74) i5) = y5 := (hy5.trans (by rw [nI_clamp (by omega)])).symm
          refine lv_iconst (v := 1) hx hb dX12_multipliers_61 (by decide) ?_
          refine lv_iadd hx hb dX12_multipliers_62 ?_
          have hFc := allFree hD hS hA
          refine va_callv (va_runV (As := [.int 23, .int (((vF 74) i5) + 1)]) (rest := []) ⟨hx, hb, hml, hown, hts⟩ (r_X12_thing l dC dI a k h0 vi vj (fT vF 0 g41) (fT vG 1 gs1) 23 (((vF 74) i5) + 1) C R Gq t D m241 f41_0 (by first | with_reducible assumption | decide | omega | rfl | assumption) (by first | with_reducible assumption | decide | omega | rfl | assumption) (by first | with_reducible assumption | decide | omega | rfl | assumption) (by first | with_reducible assumption | decide | omega | rfl | assumption) (by first | with_reducible assumption | decide | omega | rfl | assumption) (by first | with_reducible assumption | decide | omega | rfl | assumption) (hTN.framez hsz (fun p hp => by (rw [f41_2 _ (by omega), fT_ne _ _ (by omega)]); exact ho p (by omega) (by omega) (by omega) (by omega))) (by first | with_reducible assumption | decide | omega | rfl | assumption) (by first | with_reducible assumption | decide | omega | rfl | assumption) H.size) (cwV 2 hts gwsRX12_multipliers_2 rfl rfl rfl hd_yX12_thing_RX12 (by decide +kernel)) (fz_pre (va_recv hK hP (ci := 12) (q0 := 0) rfl rfl) hP hK hD) rfl rfl hl.1 rfl (lv_room (Nat.le_of_ble_eq_true rfl)) dX12_multipliers_63 (by decide +kernel)) hS (fun q _ h => hFc q h) hFc (fun u t9_ H locs ht hvm hw9 hB9 hz1 hk1 hS => ?_)
          revert u
          refine fz_p2 ?_
          intro g63 m263 hw9 hB9
          try dsimp only at hw9 hB9
          have hP : va_P (dC, dI) vwCl (WR a k h0 vi vj (fT (fT vF 0 g41) 0 g63) (fT vG 1 gs1)) H := fz_P ht hB9.1
          have hD : va_D A (WR a k h0 vi vj (fT (fT vF 0 g41) 0 g63) (fT vG 1 gs1)) := hB9.2.weaken (fun _ q _ h => hFc q.1 h)
          have e9 : fT vF 0 g63 = fT (fT vF 0 g41) 0 g63 := (fT_sm _ _ _ _).symm
          rw [← e9] at hP hD
          clear e9
          have hP : va_P (dC, dI) vwCl (WR a k h0 vi vj (fT vF 0 g63) (fT vG 1 gs1)) H := hP
          have hD : va_D A (WR a k h0 vi vj (fT vF 0 g63) (fT vG 1 gs1)) := hD
          revert hw9
          refine fz_a3 ?_
          intro f63_0 f63_1 f63_2
          have s23 : Sz 258 (m263 23) := by rcases f63_1 with h9 | ⟨i9, hi9, h9⟩; (rw [h9]; exact (by decide : (0 : Int).natAbs < 2 ^ 258)); (rw [h9]; exact hbt i9 hi9)
          refine lv_aload_n hx hb dX12_multipliers_66 rfl (lv_at hl 0 rfl) ?_
          refine lv_bipush (v := 24) hx hb dX12_multipliers_67 (by decide) ?_
          refine lv_bipush (v := 22) hx hb dX12_multipliers_69 (by decide) ?_
          refine lv_bipush (v := 23) hx hb dX12_multipliers_71 (by decide) ?_
          refine lv_iconst (v := (-1)) hx hb dX12_multipliers_73 (by decide) ?_
          have hFc := allFree hD hS hA
          refine va_callv (va_runV (As := [.int 24, .int 22, .int 23, .int (-1)]) (rest := []) ⟨hx, hb, hml, hown, hts⟩ (b_X12_add l dC dI a k h0 vi vj (fT vF 0 g63) (fT vG 1 gs1) 24 (-1) (-1) 22 23 m263 f63_0 (m241 22) (m263 23) (by rw [f63_2 _ (by omega)]) rfl (by first | with_reducible assumption | decide | omega | rfl | assumption) (by first | with_reducible assumption | decide | omega | rfl | assumption) (by first | with_reducible assumption | decide | omega | rfl | assumption) (Or.inr ⟨rfl, rfl⟩) (lift616 (k := 259) (sub259 s22 s23) (by decide)) H.size) (cwV 4 hts gwsRX12_multipliers_4 rfl rfl rfl hd_yX12_add_RX12 (by decide +kernel)) (fz_pre (va_recv hK hP (ci := 12) (q0 := 0) rfl rfl) hP hK hD) rfl rfl hl.1 rfl (lv_room (Nat.le_of_ble_eq_true rfl)) dX12_multipliers_74 (by decide +kernel)) hS (fun q _ h => hFc q h) hFc (fun u t9_ H locs ht hvm hw9 hB9 hz1 hk1 hS => ?_)
          revert u
          refine fz_p2 ?_
          intro g74 gs74 hw9 hB9
          try dsimp only at hw9 hB9
          have hP : va_P (dC, dI) vwCl (WR a k h0 vi vj (fT (fT vF 0 g63) 0 g74) (fT (fT vG 1 gs1) 1 gs74)) H := fz_P ht hB9.1
          have hD : va_D A (WR a k h0 vi vj (fT (fT vF 0 g63) 0 g74) (fT (fT vG 1 gs1) 1 gs74)) := hB9.2.weaken (fun _ q _ h => hFc q.1 h)
          have e9 : fT vF 0 g74 = fT (fT vF 0 g63) 0 g74 := (fT_sm _ _ _ _).symm
          rw [← e9] at hP hD
          clear e9
          have e9 : fT vG 1 gs74 = fT (fT vG 1 gs1) 1 gs74 := (fT_sm _ _ _ _).symm
          rw [← e9] at hP hD
          clear e9
          have hP : va_P (dC, dI) vwCl (WR a k h0 vi vj (fT vF 0 g74) (fT vG 1 gs74)) H := hP
          have hD : va_D A (WR a k h0 vi vj (fT vF 0 g74) (fT vG 1 gs74)) := hD
          have f74_0 := hw9
          try dsimp only at f74_0
          refine lv_aload_n hx hb dX12_multipliers_77 rfl (lv_at hl 0 rfl) ?_
          refine lv_bipush (v := 22) hx hb dX12_multipliers_78 (by decide) ?_
          refine lv_bipush (v := 24) hx hb dX12_multipliers_80 (by decide) ?_
          have hFc := allFree hD hS hA
          refine va_callv (va_runV (As := [.int 22, .int 24]) (rest := []) ⟨hx, hb, hml, hown, hts⟩ (b_X12_copy l dC dI a k h0 vi vj (fT vF 0 g74) (fT vG 1 gs74) 22 24 (fT m263 24 ((m241 22) + (-1) * (m263 23))) f74_0 ((m241 22) + (-1) * (m263 23)) (by rw [fT_eq]) (by first | with_reducible assumption | decide | omega | rfl | assumption) (by first | with_reducible assumption | decide | omega | rfl | assumption) (by first | with_reducible assumption | decide | omega | rfl | assumption) H.size) (cwV 2 hts gwsRX12_multipliers_5 rfl rfl rfl hd_yX12_copy_RX12 (by decide +kernel)) (fz_pre (va_recv hK hP (ci := 12) (q0 := 0) rfl rfl) hP hK hD) rfl rfl hl.1 rfl (lv_room (Nat.le_of_ble_eq_true rfl)) dX12_multipliers_82 (by decide +kernel)) hS (fun q _ h => hFc q h) hFc (fun g82 t9_ H locs ht hvm hw9 hB9 hz1 hk1 hS => ?_)
          have hP : va_P (dC, dI) vwCl (WR a k h0 vi vj (fT (fT vF 0 g74) 0 g82) (fT vG 1 gs74)) H := fz_P ht hB9.1
          have hD : va_D A (WR a k h0 vi vj (fT (fT vF 0 g74) 0 g82) (fT vG 1 gs74)) := hB9.2.weaken (fun _ q _ h => hFc q.1 h)
          have e9 : fT vF 0 g82 = fT (fT vF 0 g74) 0 g82 := (fT_sm _ _ _ _).symm
          rw [← e9] at hP hD
          clear e9
          have hP : va_P (dC, dI) vwCl (WR a k h0 vi vj (fT vF 0 g82) (fT vG 1 gs74)) H := hP
          have hD : va_D A (WR a k h0 vi vj (fT vF 0 g82) (fT vG 1 gs74)) := hD
          have f82_0 := hw9
          try dsimp only at f82_0
          refine lv_aload_n hx hb dX12_multipliers_85 rfl (lv_at hl 0 rfl) ?_
          refine lv_sipush (v := 1060) hx hb dX12_multipliers_86 (by decide) ?_
          refine lv_iload_n hx hb dX12_multipliers_89 rfl (lv_at hl 1 rfl) ?_
          refine lv_iadd hx hb dX12_multipliers_90 ?_
          refine lv_topi (fun y6 hy6 => ?_)
          obtain rfl : (nI (1060 + i5)) = y6 := (hy6.trans (nI_add 1060 i5)).symm
          refine lv_bipush (v := 22) hx hb dX12_multipliers_91 (by decide) ?_
          have hFc := allFree hD hS hA
          refine va_callv (va_runV (As := [.int (nI (1060 + i5)), .int 22]) (rest := []) ⟨hx, hb, hml, hown, hts⟩ (b_X12_copy l dC dI a k h0 vi vj (fT vF 0 g82) (fT vG 1 gs74) (1060 + i5) 22 (fT (fT m263 24 ((m241 22) + (-1) * (m263 23))) 22 ((m241 22) + (-1) * (m263 23))) f82_0 ((m241 22) + (-1) * (m263 23)) (by rw [fT_eq]) (by first | with_reducible assumption | decide | omega | rfl | assumption) (by first | with_reducible assumption | decide | omega | rfl | assumption) (by first | with_reducible assumption | decide | omega | rfl | assumption) H.size) (cwV 2 hts gwsRX12_multipliers_5 rfl rfl rfl hd_yX12_copy_RX12 (by decide +kernel)) (fz_pre (va_recv hK hP (ci := 12) (q0 := 0) rfl rfl) hP hK hD) rfl rfl hl.1 rfl (lv_room (Nat.le_of_ble_eq_true rfl)) dX12_multipliers_93 (by decide +kernel)) hS (fun q _ h => hFc q h) hFc (fun g93 t9_ H locs ht hvm hw9 hB9 hz1 hk1 hS => ?_)
          have hP : va_P (dC, dI) vwCl (WR a k h0 vi vj (fT (fT vF 0 g82) 0 g93) (fT vG 1 gs74)) H := fz_P ht hB9.1
          have hD : va_D A (WR a k h0 vi vj (fT (fT vF 0 g82) 0 g93) (fT vG 1 gs74)) := hB9.2.weaken (fun _ q _ h => hFc q.1 h)
          have e9 : fT vF 0 g93 = fT (fT vF 0 g82) 0 g93 := (fT_sm _ _ _ _).symm
          rw [← e9] at hP hD
          clear e9
          have hP : va_P (dC, dI) vwCl (WR a k h0 vi vj (fT vF 0 g93) (fT vG 1 gs74)) H := hP
          have hD : va_D A (WR a k h0 vi vj (fT vF 0 g93) (fT vG 1 gs74)) := hD
          have f93_0 := hw9
          try dsimp only at f93_0
          refine lv_iinc (v := (nI (i5 + 1))) hx hb dX12_multipliers_96 hl (k := 1) rfl (nI_add i5 1) (by decide) rfl (fun ls (hl : lv_has ls _ ([(1, .int (nI (i5 + 1))), (0, .ref h0)])) => ?_)
          refine lv_goto (tgt := 2) hx hb dX12_multipliers_99 (by decide) ?_
          have hl : lv_has _ _ ([(0, .ref h0), (1, .int (nI (i5 + 1)))]) := lv_sub hl [1, 0] rfl
          exact ih2 (i5 + 1) g93 gs74 (fT (fT (fT m263 24 ((m241 22) + (-1) * (m263 23))) 22 ((m241 22) + (-1) * (m263 23))) (1060 + i5) ((m241 22) + (-1) * (m263 23))) _ _ _ (f93_0) (by omega) (fun q h1 h2 h3 h4 => by (rw [fT_ne _ _ (by omega), fT_ne _ _ (by omega), fT_ne _ _ (by omega), f63_2 _ (by omega), f41_2 _ (by omega), fT_ne _ _ (by omega)]); exact ho q h1 h2 h3 h4) (by omega) hP hD hS hl
        · have f46_0 : ¬ EqP (vF 61) (vF 71) (vF 72) i5 := f46_0
          refine lv_if_eq (tgt := 85) hx hb dX12_multipliers_49 (by decide) (fun _ => ?_) (fun c9 => absurd (by decide) c9)
          refine lv_aload_n hx hb dX12_multipliers_85 rfl (lv_at hl 0 rfl) ?_
          refine lv_sipush (v := 1060) hx hb dX12_multipliers_86 (by decide) ?_
          refine lv_iload_n hx hb dX12_multipliers_89 rfl (lv_at hl 1 rfl) ?_
          refine lv_iadd hx hb dX12_multipliers_90 ?_
          refine lv_topi (fun y7 hy7 => ?_)
          obtain rfl : (nI (1060 + i5)) = y7 := (hy7.trans (nI_add 1060 i5)).symm
          refine lv_bipush (v := 22) hx hb dX12_multipliers_91 (by decide) ?_
          have hFc := allFree hD hS hA
          refine va_callv (va_runV (As := [.int (nI (1060 + i5)), .int 22]) (rest := []) ⟨hx, hb, hml, hown, hts⟩ (b_X12_copy l dC dI a k h0 vi vj (fT vF 0 g41) (fT vG 1 gs1) (1060 + i5) 22 m241 f41_0 (m241 22) rfl (by first | with_reducible assumption | decide | omega | rfl | assumption) (by first | with_reducible assumption | decide | omega | rfl | assumption) (by first | with_reducible assumption | decide | omega | rfl | assumption) H.size) (cwV 2 hts gwsRX12_multipliers_5 rfl rfl rfl hd_yX12_copy_RX12 (by decide +kernel)) (fz_pre (va_recv hK hP (ci := 12) (q0 := 0) rfl rfl) hP hK hD) rfl rfl hl.1 rfl (lv_room (Nat.le_of_ble_eq_true rfl)) dX12_multipliers_93 (by decide +kernel)) hS (fun q _ h => hFc q h) hFc (fun g93_1 t9_ H locs ht hvm hw9 hB9 hz1 hk1 hS => ?_)
          have hP : va_P (dC, dI) vwCl (WR a k h0 vi vj (fT (fT vF 0 g41) 0 g93_1) (fT vG 1 gs1)) H := fz_P ht hB9.1
          have hD : va_D A (WR a k h0 vi vj (fT (fT vF 0 g41) 0 g93_1) (fT vG 1 gs1)) := hB9.2.weaken (fun _ q _ h => hFc q.1 h)
          have e9 : fT vF 0 g93_1 = fT (fT vF 0 g41) 0 g93_1 := (fT_sm _ _ _ _).symm
          rw [← e9] at hP hD
          clear e9
          have hP : va_P (dC, dI) vwCl (WR a k h0 vi vj (fT vF 0 g93_1) (fT vG 1 gs1)) H := hP
          have hD : va_D A (WR a k h0 vi vj (fT vF 0 g93_1) (fT vG 1 gs1)) := hD
          have f93_1_0 := hw9
          try dsimp only at f93_1_0
          refine lv_iinc (v := (nI (i5 + 1))) hx hb dX12_multipliers_96 hl (k := 1) rfl (nI_add i5 1) (by decide) rfl (fun ls (hl : lv_has ls _ ([(1, .int (nI (i5 + 1))), (0, .ref h0)])) => ?_)
          refine lv_goto (tgt := 2) hx hb dX12_multipliers_99 (by decide) ?_
          have hl : lv_has _ _ ([(0, .ref h0), (1, .int (nI (i5 + 1)))]) := lv_sub hl [1, 0] rfl
          exact ih2 (i5 + 1) g93_1 gs1 (fT m241 (1060 + i5) (m241 22)) _ _ _ (f93_1_0) (by omega) (fun q h1 h2 h3 h4 => by (rw [fT_ne _ _ (by omega), f41_2 _ (by omega), fT_ne _ _ (by omega)]); exact ho q h1 h2 h3 h4) (by omega) hP hD hS hl
      · have t_26 : (((vF 73) i5)).toInt = 0 := toI_nne c_26 rfl (by decide)
        refine lv_goto (tgt := 96) hx hb dX12_multipliers_29 (by decide) ?_
        refine lv_iinc (v := (nI (i5 + 1))) hx hb dX12_multipliers_96 hl (k := 1) rfl (nI_add i5 1) (by decide) rfl (fun ls (hl : lv_has ls _ ([(1, .int (nI (i5 + 1))), (0, .ref h0)])) => ?_)
        refine lv_goto (tgt := 2) hx hb dX12_multipliers_99 (by decide) ?_
        have hl : lv_has _ _ ([(0, .ref h0), (1, .int (nI (i5 + 1)))]) := lv_sub hl [1, 0] rfl
        exact ih2 (i5 + 1) g17 gs1 (fT m1 (1060 + i5) 0) _ _ _ (f17_0) (by omega) (fun q h1 h2 h3 h4 => by (rw [fT_ne _ _ (by omega)]); exact ho q h1 h2 h3 h4) (by omega) hP hD hS hl
theorem dX12_prove_0 : decode cX12_prove 0 = .ok (.aload_n 0, 1) := dk_42 (by decide +kernel)
theorem dX12_prove_1 : decode cX12_prove 1 = .ok (.aload_n 0, 1) := dk_42 (by decide +kernel)
theorem dX12_prove_2 : decode cX12_prove 2 = .ok (.getfield 808, 3) := dk_180 (by decide +kernel)
theorem dX12_prove_5 : decode cX12_prove 5 = .ok (.ifCond .eq 7, 3) := dk_153 (by decide +kernel)
theorem dX12_prove_8 : decode cX12_prove 8 = .ok (.iconst 0, 1) := dk_3 (by decide +kernel)
theorem dX12_prove_9 : decode cX12_prove 9 = .ok (.goto 4, 3) := dk_167 (by decide +kernel)
theorem dX12_prove_12 : decode cX12_prove 12 = .ok (.iconst 1, 1) := dk_4 (by decide +kernel)
theorem dX12_prove_13 : decode cX12_prove 13 = .ok (.putfield 348, 3) := dk_181 (by decide +kernel)
theorem dX12_prove_16 : decode cX12_prove 16 = .ok (.aload_n 0, 1) := dk_42 (by decide +kernel)
theorem dX12_prove_17 : decode cX12_prove 17 = .ok (.getfield 348, 3) := dk_180 (by decide +kernel)
theorem dX12_prove_20 : decode cX12_prove 20 = .ok (.ifCond .le 5, 3) := dk_158 (by decide +kernel)
theorem dX12_prove_23 : decode cX12_prove 23 = .ok (.iconst 0, 1) := dk_3 (by decide +kernel)
theorem dX12_prove_24 : decode cX12_prove 24 = .ok (.ireturn, 1) := dk_172 (by decide +kernel)
theorem dX12_prove_25 : decode cX12_prove 25 = .ok (.aload_n 0, 1) := dk_42 (by decide +kernel)
theorem dX12_prove_26 : decode cX12_prove 26 = .ok (.invokevirtual 915, 3) := dk_182 (by decide +kernel)
theorem dX12_prove_29 : decode cX12_prove 29 = .ok (.aload_n 0, 1) := dk_42 (by decide +kernel)
theorem dX12_prove_30 : decode cX12_prove 30 = .ok (.aload_n 0, 1) := dk_42 (by decide +kernel)
theorem dX12_prove_31 : decode cX12_prove 31 = .ok (.iconst 1, 1) := dk_4 (by decide +kernel)
theorem dX12_prove_32 : decode cX12_prove 32 = .ok (.iconst 1, 1) := dk_4 (by decide +kernel)
theorem dX12_prove_33 : decode cX12_prove 33 = .ok (.invokevirtual 866, 3) := dk_182 (by decide +kernel)
theorem dX12_prove_36 : decode cX12_prove 36 = .ok (.ifCond .ne 7, 3) := dk_154 (by decide +kernel)
theorem dX12_prove_39 : decode cX12_prove 39 = .ok (.iconst 1, 1) := dk_4 (by decide +kernel)
theorem dX12_prove_40 : decode cX12_prove 40 = .ok (.goto 4, 3) := dk_167 (by decide +kernel)
theorem dX12_prove_43 : decode cX12_prove 43 = .ok (.iconst 0, 1) := dk_3 (by decide +kernel)
theorem dX12_prove_44 : decode cX12_prove 44 = .ok (.putfield 903, 3) := dk_181 (by decide +kernel)
theorem dX12_prove_47 : decode cX12_prove 47 = .ok (.aload_n 0, 1) := dk_42 (by decide +kernel)
theorem dX12_prove_48 : decode cX12_prove 48 = .ok (.iconst 0, 1) := dk_3 (by decide +kernel)
theorem dX12_prove_49 : decode cX12_prove 49 = .ok (.putfield 829, 3) := dk_181 (by decide +kernel)
theorem dX12_prove_52 : decode cX12_prove 52 = .ok (.aload_n 0, 1) := dk_42 (by decide +kernel)
theorem dX12_prove_53 : decode cX12_prove 53 = .ok (.getfield 903, 3) := dk_180 (by decide +kernel)
theorem dX12_prove_56 : decode cX12_prove 56 = .ok (.ifCond .ne 10, 3) := dk_154 (by decide +kernel)
theorem dX12_prove_59 : decode cX12_prove 59 = .ok (.aload_n 0, 1) := dk_42 (by decide +kernel)
theorem dX12_prove_60 : decode cX12_prove 60 = .ok (.invokevirtual 918, 3) := dk_182 (by decide +kernel)
theorem dX12_prove_63 : decode cX12_prove 63 = .ok (.goto 7, 3) := dk_167 (by decide +kernel)
theorem dX12_prove_66 : decode cX12_prove 66 = .ok (.aload_n 0, 1) := dk_42 (by decide +kernel)
theorem dX12_prove_67 : decode cX12_prove 67 = .ok (.invokevirtual 921, 3) := dk_182 (by decide +kernel)
theorem dX12_prove_70 : decode cX12_prove 70 = .ok (.aload_n 0, 1) := dk_42 (by decide +kernel)
theorem dX12_prove_71 : decode cX12_prove 71 = .ok (.getfield 894, 3) := dk_180 (by decide +kernel)
theorem dX12_prove_74 : decode cX12_prove 74 = .ok (.iconst 1, 1) := dk_4 (by decide +kernel)
theorem dX12_prove_75 : decode cX12_prove 75 = .ok (.isub, 1) := dk_100 (by decide +kernel)
theorem dX12_prove_76 : decode cX12_prove 76 = .ok (.istore_n 1, 1) := dk_60 (by decide +kernel)
theorem dX12_prove_77 : decode cX12_prove 77 = .ok (.iload_n 1, 1) := dk_27 (by decide +kernel)
theorem dX12_prove_78 : decode cX12_prove 78 = .ok (.ifCond .lt 30, 3) := dk_155 (by decide +kernel)
theorem dX12_prove_81 : decode cX12_prove 81 = .ok (.aload_n 0, 1) := dk_42 (by decide +kernel)
theorem dX12_prove_82 : decode cX12_prove 82 = .ok (.getfield 242, 3) := dk_180 (by decide +kernel)
theorem dX12_prove_85 : decode cX12_prove 85 = .ok (.iload_n 1, 1) := dk_27 (by decide +kernel)
theorem dX12_prove_86 : decode cX12_prove 86 = .ok (.iconst 0, 1) := dk_3 (by decide +kernel)
theorem dX12_prove_87 : decode cX12_prove 87 = .ok (.iastore, 1) := dk_79 (by decide +kernel)
theorem dX12_prove_88 : decode cX12_prove 88 = .ok (.aload_n 0, 1) := dk_42 (by decide +kernel)
theorem dX12_prove_89 : decode cX12_prove 89 = .ok (.invokevirtual 924, 3) := dk_182 (by decide +kernel)
theorem dX12_prove_92 : decode cX12_prove 92 = .ok (.ifCond .ne 10, 3) := dk_154 (by decide +kernel)
theorem dX12_prove_95 : decode cX12_prove 95 = .ok (.aload_n 0, 1) := dk_42 (by decide +kernel)
theorem dX12_prove_96 : decode cX12_prove 96 = .ok (.getfield 242, 3) := dk_180 (by decide +kernel)
theorem dX12_prove_99 : decode cX12_prove 99 = .ok (.iload_n 1, 1) := dk_27 (by decide +kernel)
theorem dX12_prove_100 : decode cX12_prove 100 = .ok (.iconst 1, 1) := dk_4 (by decide +kernel)
theorem dX12_prove_101 : decode cX12_prove 101 = .ok (.iastore, 1) := dk_79 (by decide +kernel)
theorem dX12_prove_102 : decode cX12_prove 102 = .ok (.iinc 1 (-1), 3) := dk_132 (by decide +kernel)
theorem dX12_prove_105 : decode cX12_prove 105 = .ok (.goto (-28), 3) := dk_167 (by decide +kernel)
theorem dX12_prove_108 : decode cX12_prove 108 = .ok (.aload_n 0, 1) := dk_42 (by decide +kernel)
theorem dX12_prove_109 : decode cX12_prove 109 = .ok (.invokevirtual 912, 3) := dk_182 (by decide +kernel)
theorem dX12_prove_112 : decode cX12_prove 112 = .ok (.pop, 1) := dk_87 (by decide +kernel)
theorem dX12_prove_113 : decode cX12_prove 113 = .ok (.aload_n 0, 1) := dk_42 (by decide +kernel)
theorem dX12_prove_114 : decode cX12_prove 114 = .ok (.invokevirtual 927, 3) := dk_182 (by decide +kernel)
theorem dX12_prove_117 : decode cX12_prove 117 = .ok (.aload_n 0, 1) := dk_42 (by decide +kernel)
theorem dX12_prove_118 : decode cX12_prove 118 = .ok (.iconst 1, 1) := dk_4 (by decide +kernel)
theorem dX12_prove_119 : decode cX12_prove 119 = .ok (.putfield 814, 3) := dk_181 (by decide +kernel)
theorem dX12_prove_122 : decode cX12_prove 122 = .ok (.iconst 0, 1) := dk_3 (by decide +kernel)
theorem dX12_prove_123 : decode cX12_prove 123 = .ok (.istore_n 1, 1) := dk_60 (by decide +kernel)
theorem dX12_prove_124 : decode cX12_prove 124 = .ok (.iconst 0, 1) := dk_3 (by decide +kernel)
theorem dX12_prove_125 : decode cX12_prove 125 = .ok (.istore_n 2, 1) := dk_61 (by decide +kernel)
theorem dX12_prove_126 : decode cX12_prove 126 = .ok (.iload_n 2, 1) := dk_28 (by decide +kernel)
theorem dX12_prove_127 : decode cX12_prove 127 = .ok (.aload_n 0, 1) := dk_42 (by decide +kernel)
theorem dX12_prove_128 : decode cX12_prove 128 = .ok (.getfield 894, 3) := dk_180 (by decide +kernel)
theorem dX12_prove_131 : decode cX12_prove 131 = .ok (.if_icmp .ge 18, 3) := dk_162 (by decide +kernel)
theorem dX12_prove_134 : decode cX12_prove 134 = .ok (.iload_n 1, 1) := dk_27 (by decide +kernel)
theorem dX12_prove_135 : decode cX12_prove 135 = .ok (.aload_n 0, 1) := dk_42 (by decide +kernel)
theorem dX12_prove_136 : decode cX12_prove 136 = .ok (.getfield 242, 3) := dk_180 (by decide +kernel)
theorem dX12_prove_139 : decode cX12_prove 139 = .ok (.iload_n 2, 1) := dk_28 (by decide +kernel)
theorem dX12_prove_140 : decode cX12_prove 140 = .ok (.iaload, 1) := dk_46 (by decide +kernel)
theorem dX12_prove_141 : decode cX12_prove 141 = .ok (.iadd, 1) := dk_96 (by decide +kernel)
theorem dX12_prove_142 : decode cX12_prove 142 = .ok (.istore_n 1, 1) := dk_60 (by decide +kernel)
theorem dX12_prove_143 : decode cX12_prove 143 = .ok (.iinc 2 1, 3) := dk_132 (by decide +kernel)
theorem dX12_prove_146 : decode cX12_prove 146 = .ok (.goto (-20), 3) := dk_167 (by decide +kernel)
theorem dX12_prove_149 : decode cX12_prove 149 = .ok (.iload_n 1, 1) := dk_27 (by decide +kernel)
theorem dX12_prove_150 : decode cX12_prove 150 = .ok (.ireturn, 1) := dk_172 (by decide +kernel)
def wsRX12_prove : List Cond := .code yX12_prove cX12_prove 3 (some .int) :: ([.fieldLink RX12 808 "OptimaWorksModel" "isModel" "Z", .fieldLink RX12 348 "OptimaWorksModel" "thrown" "I", .fieldLink RX12 903 "OptimaWorksModel" "isShort" "Z", .fieldLink RX12 829 "OptimaWorksModel" "fixes" "Z", .fieldLink RX12 894 "OptimaWorksModel" "needs" "I", .fieldLink RX12 814 "OptimaWorksModel" "hasProof" "Z", .fieldLink RX12 242 "OptimaWorksModel" "needKept" "[I"] ++ wsX120 ++ (wsV RX12 915 RX12 yX12_listNeeds wsRX12_listNeeds) ++ (wsV RX12 866 RX12 yX12_solves wsRX12_solves) ++ (wsV RX12 921 RX12 yX12_shortBest wsRX12_shortBest) ++ (wsV RX12 918 RX12 yX12_best1 wsRX12_best1) ++ (wsV RX12 912 RX12 yX12_addsUp wsRX12_addsUp) ++ (wsV RX12 927 RX12 yX12_multipliers wsRX12_multipliers) ++ (wsV RX12 924 RX12 yX12_proves wsRX12_proves))
theorem iwsRX12_prove_in12 : ∀ w ∈ wsX120, w ∈ wsRX12_prove := fun _ h => List.mem_cons_of_mem _ (List.mem_append_left _ (List.mem_append_left _ (List.mem_append_left _ (List.mem_append_left _ (List.mem_append_left _ (List.mem_append_left _ (List.mem_append_left _ (List.mem_append_right _ h))))))))
theorem gwsRX12_prove_0 : GoodIn wsRX12_prove (wsV RX12 915 RX12 yX12_listNeeds wsRX12_listNeeds) := goodIn_sub (fun _ h => List.mem_cons_of_mem _ (List.mem_append_left _ (List.mem_append_left _ (List.mem_append_left _ (List.mem_append_left _ (List.mem_append_left _ (List.mem_append_left _ (List.mem_append_right _ h)))))))) (gdV (by decide +kernel) gdwsRX12_listNeeds)
theorem gwsRX12_prove_1 : GoodIn wsRX12_prove (wsV RX12 866 RX12 yX12_solves wsRX12_solves) := goodIn_sub (fun _ h => List.mem_cons_of_mem _ (List.mem_append_left _ (List.mem_append_left _ (List.mem_append_left _ (List.mem_append_left _ (List.mem_append_left _ (List.mem_append_right _ h))))))) (gdV (by decide +kernel) gdwsRX12_solves)
theorem gwsRX12_prove_2 : GoodIn wsRX12_prove (wsV RX12 921 RX12 yX12_shortBest wsRX12_shortBest) := goodIn_sub (fun _ h => List.mem_cons_of_mem _ (List.mem_append_left _ (List.mem_append_left _ (List.mem_append_left _ (List.mem_append_left _ (List.mem_append_right _ h)))))) (gdV (by decide +kernel) gdwsRX12_shortBest)
theorem gwsRX12_prove_3 : GoodIn wsRX12_prove (wsV RX12 918 RX12 yX12_best1 wsRX12_best1) := goodIn_sub (fun _ h => List.mem_cons_of_mem _ (List.mem_append_left _ (List.mem_append_left _ (List.mem_append_left _ (List.mem_append_right _ h))))) (gdV (by decide +kernel) gdwsRX12_best1)
theorem gwsRX12_prove_4 : GoodIn wsRX12_prove (wsV RX12 912 RX12 yX12_addsUp wsRX12_addsUp) := goodIn_sub (fun _ h => List.mem_cons_of_mem _ (List.mem_append_left _ (List.mem_append_left _ (List.mem_append_right _ h)))) (gdV (by decide +kernel) gdwsRX12_addsUp)
theorem gwsRX12_prove_5 : GoodIn wsRX12_prove (wsV RX12 927 RX12 yX12_multipliers wsRX12_multipliers) := goodIn_sub (fun _ h => List.mem_cons_of_mem _ (List.mem_append_left _ (List.mem_append_right _ h))) (gdV (by decide +kernel) gdwsRX12_multipliers)
theorem gwsRX12_prove_6 : GoodIn wsRX12_prove (wsV RX12 924 RX12 yX12_proves wsRX12_proves) := goodIn_sub (fun _ h => List.mem_cons_of_mem _ (List.mem_append_right _ h)) (gdV (by decide +kernel) gdwsRX12_proves)
theorem gdwsRX12_prove : wsRX12_prove.all goodWord = true := gdC rfl (gdA (gdA (gdA (gdA (gdA (gdA (gdA (gdA (by decide +kernel : ([.fieldLink RX12 808 "OptimaWorksModel" "isModel" "Z", .fieldLink RX12 348 "OptimaWorksModel" "thrown" "I", .fieldLink RX12 903 "OptimaWorksModel" "isShort" "Z", .fieldLink RX12 829 "OptimaWorksModel" "fixes" "Z", .fieldLink RX12 894 "OptimaWorksModel" "needs" "I", .fieldLink RX12 814 "OptimaWorksModel" "hasProof" "Z", .fieldLink RX12 242 "OptimaWorksModel" "needKept" "[I"] : List Cond).all goodWord = true) gdwsX120) (gdV (by decide +kernel) gdwsRX12_listNeeds)) (gdV (by decide +kernel) gdwsRX12_solves)) (gdV (by decide +kernel) gdwsRX12_shortBest)) (gdV (by decide +kernel) gdwsRX12_best1)) (gdV (by decide +kernel) gdwsRX12_addsUp)) (gdV (by decide +kernel) gdwsRX12_multipliers)) (gdV (by decide +kernel) gdwsRX12_proves))
set_option maxHeartbeats 4000000 in
set_option maxRecDepth 100000 in
/-- prove() -/
theorem r_X12_prove (l : Launch) (dC : Nat → ClassId) (dI : Nat → Nat → Nat) (a : Nat → Nat) (k : Nat → ClassId) (h0 : Nat) (vi : Nat → Int32) (vj : Nat → Int64) (vF : Nat → Nat → Int32) (vG : Nat → Nat → Int64) (vn : Nat) (mr : Nat) (gq : Nat) (dn : Nat) (nd0 : Nat) (mg : Nat → Int) (hBg : Bg (vF 0) mg) (hvn : vi 90 = nI vn) (hvn8 : vn ≤ 8) (hmr : vi 91 = nI mr) (hmr12 : mr ≤ 12) (hmg : vi 93 = nI gq) (hgq : gq ≤ 3) (hdn : vi 92 = nI dn) (hdn8 : dn ≤ 8) (hM : MdlB vF gq) (hlh : ∀ k, k < vn → (vF 56 k).toInt ≤ (vF 57 k).toInt) (hwm : WmO (vF 59) mr) (hAn : AnsB mg 1020) (hpv : vi 117 ≠ 0 → 0 < mg 1051 ∧ 0 < mg 1052) (hp1 : vi 117 = 0 ∨ vi 117 = 1) (hnd0 : vi 119 = nI nd0) (hnd28 : nd0 ≤ 28) (sz : Nat) : Met l yX12_prove wsRX12_prove ({ frames := 8, cells := 0, slots := 0, locals := 202 }) (va_Pc [.ref h0] (fun U => U.heap.size = sz ∧ va_P (dC, dI) vwCl (WR a k h0 vi vj vF vG) U.heap ∧ va_K (dC, dI) vwCl (tX12 k) U ∧ va_D (fun _ => True) (WR a k h0 vi vj vF vG))) (va_Qi (fun (r : Int32) (u : (Nat → Int32) × (Nat → Int32) × (Nat → Int32) × (Nat → Int32) × (Nat → Int32) × (Nat → Int32) × (Nat → Int32) × (Nat → Int64) × (Nat → Int64) × (Nat → Int64) × (Int64) × (Int32) × (Int32) × (Int32) × (Int32) × (Nat → Int32) × (Nat → Int32) × (Nat → Int32) × (Int32) × (Int32) × (Int32) × (Int32) × (Nat) × (Nat → Int)) => (Bg (u.1) (u.2.2.2.2.2.2.2.2.2.2.2.2.2.2.2.2.2.2.2.2.2.2.2)) ∧ (AnsB (u.2.2.2.2.2.2.2.2.2.2.2.2.2.2.2.2.2.2.2.2.2.2.2) 1020) ∧ ((u.2.2.2.2.2.2.2.2.2.2.2.2.2.2.2.2.2.2.2.2.1) ≠ 0 → 0 < (u.2.2.2.2.2.2.2.2.2.2.2.2.2.2.2.2.2.2.2.2.2.2.2) 1051 ∧ 0 < (u.2.2.2.2.2.2.2.2.2.2.2.2.2.2.2.2.2.2.2.2.2.2.2) 1052) ∧ (∀ q, 1000 ≤ q → q < 1020 → (u.2.2.2.2.2.2.2.2.2.2.2.2.2.2.2.2.2.2.2.2.2.2.2) q = mg q) ∧ ((u.2.2.2.2.2.2.2.2.2.2.2.2.2.2.2.2.2.2.2.2.2.2.1) ≤ 28) ∧ ((u.2.2.2.2.2.2.2.2.2.2.2.2.2.2.2.2.2.2.2.2.1) = 0 ∨ (u.2.2.2.2.2.2.2.2.2.2.2.2.2.2.2.2.2.2.2.2.1) = 1)) (fun (u : (Nat → Int32) × (Nat → Int32) × (Nat → Int32) × (Nat → Int32) × (Nat → Int32) × (Nat → Int32) × (Nat → Int32) × (Nat → Int64) × (Nat → Int64) × (Nat → Int64) × (Int64) × (Int32) × (Int32) × (Int32) × (Int32) × (Nat → Int32) × (Nat → Int32) × (Nat → Int32) × (Int32) × (Int32) × (Int32) × (Int32) × (Nat) × (Nat → Int)) t => va_P (dC, dI) vwCl (WR a k h0 (fT (fT (fT (fT (fT (fT (fT (fT (fT vi 0 (u.2.2.2.2.2.2.2.2.2.2.2.2.2.2.2.2.2.2.2.2.2.1)) 119 (nI (u.2.2.2.2.2.2.2.2.2.2.2.2.2.2.2.2.2.2.2.2.2.2.1))) 116 (u.2.2.2.2.2.2.2.2.2.2.2.2.2.2.2.2.2.2.1)) 5 (u.2.2.2.2.2.2.2.2.2.2.2.2.1)) 6 (u.2.2.2.2.2.2.2.2.2.2.2.2.2.1)) 7 (u.2.2.2.2.2.2.2.2.2.2.2.2.2.2.1)) 11 (u.2.2.2.2.2.2.2.2.2.2.2.1)) 118 (u.2.2.2.2.2.2.2.2.2.2.2.2.2.2.2.2.2.2.2.1)) 117 (u.2.2.2.2.2.2.2.2.2.2.2.2.2.2.2.2.2.2.2.2.1)) (fT vj 12 (u.2.2.2.2.2.2.2.2.2.2.1)) (fT (fT (fT (fT (fT (fT (fT (fT (fT (fT vF 71 (u.2.2.2.2.2.2.2.2.2.2.2.2.2.2.2.1)) 72 (u.2.2.2.2.2.2.2.2.2.2.2.2.2.2.2.2.1)) 73 (u.2.2.2.2.2.2.2.2.2.2.2.2.2.2.2.2.2.1)) 0 (u.1)) 4 (u.2.2.2.1)) 6 (u.2.2.2.2.2.1)) 5 (u.2.2.2.2.1)) 2 (u.2.1)) 3 (u.2.2.1)) 74 (u.2.2.2.2.2.2.1)) (fT (fT (fT vG 1 (u.2.2.2.2.2.2.2.1)) 7 (u.2.2.2.2.2.2.2.2.1)) 8 (u.2.2.2.2.2.2.2.2.2.1))) t.heap ∧ va_D (va_A (WR a k h0 vi vj vF vG) sz) (WR a k h0 (fT (fT (fT (fT (fT (fT (fT (fT (fT vi 0 (u.2.2.2.2.2.2.2.2.2.2.2.2.2.2.2.2.2.2.2.2.2.1)) 119 (nI (u.2.2.2.2.2.2.2.2.2.2.2.2.2.2.2.2.2.2.2.2.2.2.1))) 116 (u.2.2.2.2.2.2.2.2.2.2.2.2.2.2.2.2.2.2.1)) 5 (u.2.2.2.2.2.2.2.2.2.2.2.2.1)) 6 (u.2.2.2.2.2.2.2.2.2.2.2.2.2.1)) 7 (u.2.2.2.2.2.2.2.2.2.2.2.2.2.2.1)) 11 (u.2.2.2.2.2.2.2.2.2.2.2.1)) 118 (u.2.2.2.2.2.2.2.2.2.2.2.2.2.2.2.2.2.2.2.1)) 117 (u.2.2.2.2.2.2.2.2.2.2.2.2.2.2.2.2.2.2.2.2.1)) (fT vj 12 (u.2.2.2.2.2.2.2.2.2.2.1)) (fT (fT (fT (fT (fT (fT (fT (fT (fT (fT vF 71 (u.2.2.2.2.2.2.2.2.2.2.2.2.2.2.2.1)) 72 (u.2.2.2.2.2.2.2.2.2.2.2.2.2.2.2.2.1)) 73 (u.2.2.2.2.2.2.2.2.2.2.2.2.2.2.2.2.2.1)) 0 (u.1)) 4 (u.2.2.2.1)) 6 (u.2.2.2.2.2.1)) 5 (u.2.2.2.2.1)) 2 (u.2.1)) 3 (u.2.2.1)) 74 (u.2.2.2.2.2.2.1)) (fT (fT (fT vG 1 (u.2.2.2.2.2.2.2.1)) 7 (u.2.2.2.2.2.2.2.2.1)) 8 (u.2.2.2.2.2.2.2.2.2.1)))) (va_A (WR a k h0 vi vj vF vG) sz)) 0 0 (va_A (WR a k h0 vi vj vF vG) sz) := by
  refine Met.ofW (cc := cX12_prove) (maxL := 3) (ret := (some .int)) (by decide) rfl ?_
  intro p e s m args below meth c s₁ B hml hv
  obtain ⟨rfl, hsz, hP, hK, hD0⟩ := hv
  have hx := B.exec
  have hb := B.bytes
  have hr := B.returns
  have hts := atoms_spec (ws := wsRX12_prove) B.pre
  have hown : s.vm.findClass RX12 = some m.cls := findClass_of_methodNamed B.named
  have hlocks := B.notSynchronized
  subst hsz
  have hD := hD0.self (sz := s.heap.size)
  generalize hAe : va_A (WR a k h0 vi vj vF vG) s.heap.size = A at hD ⊢
  have hA : ∀ q : Nat, s.heap.size ≤ q → A q := fun q h => by rw [← hAe]; exact Or.inr h
  have hS : va_S A s.heap s.heap [] := va_S.rf
  have hl := lv_entry ([.ref h0]) (n := 3) (Nat.le_of_ble_eq_true rfl)
  rw [lg_entry_eq]
  generalize (lg_sl ([.ref h0]) ++ List.replicate (3 - (lg_sl ([.ref h0])).length) Slot.unset).toArray = ls at hl ⊢
  have hl : lv_has ls 3 [(0, .ref h0)] := hl
  refine lv_aload_n hx hb dX12_prove_0 rfl (lv_at hl 0 rfl) ?_
  refine lv_aload_n hx hb dX12_prove_1 rfl (lv_at hl 0 rfl) ?_
  refine va_get (D := (dC, dI)) (ci := 12) (v := .int (vi 95)) (C := RX12) (T := TX12) (N := 163) (fs := fM (vS a vi vj)) hx hb hts iwsRX12_prove_in12 hown hK hP 0 rfl rfl 95 (by decide) (hts (.fieldLink RX12 808 "OptimaWorksModel" "isModel" "Z") (by decide +kernel)) (fun _ h9 => h9) rfl dX12_prove_2 ?_
  refine lv_if_eq (tgt := 12) hx hb dX12_prove_5 (by decide) (fun c_5 => ?_) (fun c_5 => ?_)
  · have t_5 : ((vi 95)).toInt = 0 := toI_eq c_5 rfl (by decide)
    refine lv_iconst (v := 1) hx hb dX12_prove_12 (by decide) ?_
    refine va_put (D := (dC, dI)) (ci := 12) (v := .int 1) (ty := .int) (C := RX12) (T := TX12) (N := 163) (fs := fM (vS a vi vj)) hx hb hts iwsRX12_prove_in12 tyX12 tyX12_ok nmX12 hown hK hP hD hS 0 rfl rfl 0 (by decide) (hts (.fieldLink RX12 348 "OptimaWorksModel" "thrown" "I") (by decide +kernel)) (fun _ h9 => h9) rfl (by decide +kernel) rfl rfl (Nat.le_of_ble_eq_true rfl) dX12_prove_13 (fun H locs hP hD hS => ?_)
    have hP : va_P (dC, dI) vwCl (WR a k h0 (fT vi 0 1) vj vF vG) H := by rw [← WR_i 0 _ rfl]; exact hP
    have hD : va_D A (WR a k h0 (fT vi 0 1) vj vF vG) := by rw [← WR_i 0 _ rfl]; exact hD
    refine lv_aload_n hx hb dX12_prove_16 rfl (lv_at hl 0 rfl) ?_
    refine va_get (D := (dC, dI)) (ci := 12) (v := .int 1) (C := RX12) (T := TX12) (N := 163) (fs := fM (vS a (fT vi 0 1) vj)) hx hb hts iwsRX12_prove_in12 hown hK hP 0 rfl rfl 0 (by decide) (hts (.fieldLink RX12 348 "OptimaWorksModel" "thrown" "I") (by decide +kernel)) (fun _ h9 => h9) rfl dX12_prove_17 ?_
    refine lv_if_le (tgt := 25) hx hb dX12_prove_20 (by decide) (fun c9 => absurd c9 (by decide)) (fun _ => ?_)
    refine lv_iconst (v := 0) hx hb dX12_prove_23 (by decide) ?_
    refine W.widen (k := 0) (n := 0) (by decide +kernel) (by decide +kernel) ?_
    have e9 : fT (fT (fT (fT (fT (fT (fT (fT (fT vi 0 1) 119 (nI nd0)) 116 (vi 116)) 5 (vi 5)) 6 (vi 6)) 7 (vi 7)) 11 (vi 11)) 118 (vi 118)) 117 (vi 117) = fT vi 0 1 := by funext q9; by_cases h9_0 : q9 = 0; (subst h9_0; exact ((fT_ne _ _ (Nat.ne_of_beq_eq_false rfl)).trans ((fT_ne _ _ (Nat.ne_of_beq_eq_false rfl)).trans ((fT_ne _ _ (Nat.ne_of_beq_eq_false rfl)).trans ((fT_ne _ _ (Nat.ne_of_beq_eq_false rfl)).trans ((fT_ne _ _ (Nat.ne_of_beq_eq_false rfl)).trans ((fT_ne _ _ (Nat.ne_of_beq_eq_false rfl)).trans ((fT_ne _ _ (Nat.ne_of_beq_eq_false rfl)).trans ((fT_ne _ _ (Nat.ne_of_beq_eq_false rfl)).trans (fT_eq _ _ _))))))))).trans (Eq.trans (by first | with_reducible rfl | with_reducible assumption | (symm; with_reducible assumption) | rfl | assumption | (symm; assumption) | (subst_vars; rfl)) (fT_eq _ _ _).symm)); by_cases h9_119 : q9 = 119; (subst h9_119; exact ((fT_ne _ _ (Nat.ne_of_beq_eq_false rfl)).trans ((fT_ne _ _ (Nat.ne_of_beq_eq_false rfl)).trans ((fT_ne _ _ (Nat.ne_of_beq_eq_false rfl)).trans ((fT_ne _ _ (Nat.ne_of_beq_eq_false rfl)).trans ((fT_ne _ _ (Nat.ne_of_beq_eq_false rfl)).trans ((fT_ne _ _ (Nat.ne_of_beq_eq_false rfl)).trans ((fT_ne _ _ (Nat.ne_of_beq_eq_false rfl)).trans (fT_eq _ _ _)))))))).trans (Eq.trans (by first | with_reducible rfl | with_reducible assumption | (symm; with_reducible assumption) | rfl | assumption | (symm; assumption) | (subst_vars; rfl)) (fT_ne _ _ (Nat.ne_of_beq_eq_false rfl)).symm)); by_cases h9_116 : q9 = 116; (subst h9_116; exact ((fT_ne _ _ (Nat.ne_of_beq_eq_false rfl)).trans ((fT_ne _ _ (Nat.ne_of_beq_eq_false rfl)).trans ((fT_ne _ _ (Nat.ne_of_beq_eq_false rfl)).trans ((fT_ne _ _ (Nat.ne_of_beq_eq_false rfl)).trans ((fT_ne _ _ (Nat.ne_of_beq_eq_false rfl)).trans ((fT_ne _ _ (Nat.ne_of_beq_eq_false rfl)).trans (fT_eq _ _ _))))))).trans (Eq.trans (by first | with_reducible rfl | with_reducible assumption | (symm; with_reducible assumption) | rfl | assumption | (symm; assumption) | (subst_vars; rfl)) (fT_ne _ _ (Nat.ne_of_beq_eq_false rfl)).symm)); by_cases h9_5 : q9 = 5; (subst h9_5; exact ((fT_ne _ _ (Nat.ne_of_beq_eq_false rfl)).trans ((fT_ne _ _ (Nat.ne_of_beq_eq_false rfl)).trans ((fT_ne _ _ (Nat.ne_of_beq_eq_false rfl)).trans ((fT_ne _ _ (Nat.ne_of_beq_eq_false rfl)).trans ((fT_ne _ _ (Nat.ne_of_beq_eq_false rfl)).trans (fT_eq _ _ _)))))).trans (Eq.trans (by first | with_reducible rfl | with_reducible assumption | (symm; with_reducible assumption) | rfl | assumption | (symm; assumption) | (subst_vars; rfl)) (fT_ne _ _ (Nat.ne_of_beq_eq_false rfl)).symm)); by_cases h9_6 : q9 = 6; (subst h9_6; exact ((fT_ne _ _ (Nat.ne_of_beq_eq_false rfl)).trans ((fT_ne _ _ (Nat.ne_of_beq_eq_false rfl)).trans ((fT_ne _ _ (Nat.ne_of_beq_eq_false rfl)).trans ((fT_ne _ _ (Nat.ne_of_beq_eq_false rfl)).trans (fT_eq _ _ _))))).trans (Eq.trans (by first | with_reducible rfl | with_reducible assumption | (symm; with_reducible assumption) | rfl | assumption | (symm; assumption) | (subst_vars; rfl)) (fT_ne _ _ (Nat.ne_of_beq_eq_false rfl)).symm)); by_cases h9_7 : q9 = 7; (subst h9_7; exact ((fT_ne _ _ (Nat.ne_of_beq_eq_false rfl)).trans ((fT_ne _ _ (Nat.ne_of_beq_eq_false rfl)).trans ((fT_ne _ _ (Nat.ne_of_beq_eq_false rfl)).trans (fT_eq _ _ _)))).trans (Eq.trans (by first | with_reducible rfl | with_reducible assumption | (symm; with_reducible assumption) | rfl | assumption | (symm; assumption) | (subst_vars; rfl)) (fT_ne _ _ (Nat.ne_of_beq_eq_false rfl)).symm)); by_cases h9_11 : q9 = 11; (subst h9_11; exact ((fT_ne _ _ (Nat.ne_of_beq_eq_false rfl)).trans ((fT_ne _ _ (Nat.ne_of_beq_eq_false rfl)).trans (fT_eq _ _ _))).trans (Eq.trans (by first | with_reducible rfl | with_reducible assumption | (symm; with_reducible assumption) | rfl | assumption | (symm; assumption) | (subst_vars; rfl)) (fT_ne _ _ (Nat.ne_of_beq_eq_false rfl)).symm)); by_cases h9_118 : q9 = 118; (subst h9_118; exact ((fT_ne _ _ (Nat.ne_of_beq_eq_false rfl)).trans (fT_eq _ _ _)).trans (Eq.trans (by first | with_reducible rfl | with_reducible assumption | (symm; with_reducible assumption) | rfl | assumption | (symm; assumption) | (subst_vars; rfl)) (fT_ne _ _ (Nat.ne_of_beq_eq_false rfl)).symm)); by_cases h9_117 : q9 = 117; (subst h9_117; exact (fT_eq _ _ _).trans (Eq.trans (by first | with_reducible rfl | with_reducible assumption | (symm; with_reducible assumption) | rfl | assumption | (symm; assumption) | (subst_vars; rfl)) (fT_ne _ _ (Nat.ne_of_beq_eq_false rfl)).symm)); exact ((fT_ne _ _ h9_117).trans ((fT_ne _ _ h9_118).trans ((fT_ne _ _ h9_11).trans ((fT_ne _ _ h9_7).trans ((fT_ne _ _ h9_6).trans ((fT_ne _ _ h9_5).trans ((fT_ne _ _ h9_116).trans ((fT_ne _ _ h9_119).trans (fT_ne _ _ h9_0))))))))).trans (fT_ne _ _ h9_0).symm
    have hP : va_P (dC, dI) vwCl (WR a k h0 (fT (fT (fT (fT (fT (fT (fT (fT (fT vi 0 1) 119 (nI nd0)) 116 (vi 116)) 5 (vi 5)) 6 (vi 6)) 7 (vi 7)) 11 (vi 11)) 118 (vi 118)) 117 (vi 117)) vj vF vG) H := by rw [e9]; exact hP
    have hD : va_D A (WR a k h0 (fT (fT (fT (fT (fT (fT (fT (fT (fT vi 0 1) 119 (nI nd0)) 116 (vi 116)) 5 (vi 5)) 6 (vi 6)) 7 (vi 7)) 11 (vi 11)) 118 (vi 118)) 117 (vi 117)) vj vF vG) := by rw [e9]; exact hD
    clear e9
    have e9 : fT vj 12 (vj 12) = vj := fT_id _ _ (rfl)
    have hP : va_P (dC, dI) vwCl (WR a k h0 (fT (fT (fT (fT (fT (fT (fT (fT (fT vi 0 1) 119 (nI nd0)) 116 (vi 116)) 5 (vi 5)) 6 (vi 6)) 7 (vi 7)) 11 (vi 11)) 118 (vi 118)) 117 (vi 117)) (fT vj 12 (vj 12)) vF vG) H := by rw [e9]; exact hP
    have hD : va_D A (WR a k h0 (fT (fT (fT (fT (fT (fT (fT (fT (fT vi 0 1) 119 (nI nd0)) 116 (vi 116)) 5 (vi 5)) 6 (vi 6)) 7 (vi 7)) 11 (vi 11)) 118 (vi 118)) 117 (vi 117)) (fT vj 12 (vj 12)) vF vG) := by rw [e9]; exact hD
    clear e9
    have e9 : fT (fT (fT (fT (fT (fT (fT (fT (fT (fT vF 71 (vF 71)) 72 (vF 72)) 73 (vF 73)) 0 (vF 0)) 4 (vF 4)) 6 (vF 6)) 5 (vF 5)) 2 (vF 2)) 3 (vF 3)) 74 (vF 74) = vF := (fT_id _ _ ((fT_ne _ _ (Nat.ne_of_beq_eq_false rfl)).trans ((fT_ne _ _ (Nat.ne_of_beq_eq_false rfl)).trans ((fT_ne _ _ (Nat.ne_of_beq_eq_false rfl)).trans ((fT_ne _ _ (Nat.ne_of_beq_eq_false rfl)).trans ((fT_ne _ _ (Nat.ne_of_beq_eq_false rfl)).trans ((fT_ne _ _ (Nat.ne_of_beq_eq_false rfl)).trans ((fT_ne _ _ (Nat.ne_of_beq_eq_false rfl)).trans ((fT_ne _ _ (Nat.ne_of_beq_eq_false rfl)).trans (fT_ne _ _ (Nat.ne_of_beq_eq_false rfl))))))))))).trans ((fT_id _ _ ((fT_ne _ _ (Nat.ne_of_beq_eq_false rfl)).trans ((fT_ne _ _ (Nat.ne_of_beq_eq_false rfl)).trans ((fT_ne _ _ (Nat.ne_of_beq_eq_false rfl)).trans ((fT_ne _ _ (Nat.ne_of_beq_eq_false rfl)).trans ((fT_ne _ _ (Nat.ne_of_beq_eq_false rfl)).trans ((fT_ne _ _ (Nat.ne_of_beq_eq_false rfl)).trans ((fT_ne _ _ (Nat.ne_of_beq_eq_false rfl)).trans (fT_ne _ _ (Nat.ne_of_beq_eq_false rfl)))))))))).trans ((fT_id _ _ ((fT_ne _ _ (Nat.ne_of_beq_eq_false rfl)).trans ((fT_ne _ _ (Nat.ne_of_beq_eq_false rfl)).trans ((fT_ne _ _ (Nat.ne_of_beq_eq_false rfl)).trans ((fT_ne _ _ (Nat.ne_of_beq_eq_false rfl)).trans ((fT_ne _ _ (Nat.ne_of_beq_eq_false rfl)).trans ((fT_ne _ _ (Nat.ne_of_beq_eq_false rfl)).trans (fT_ne _ _ (Nat.ne_of_beq_eq_false rfl))))))))).trans ((fT_id _ _ ((fT_ne _ _ (Nat.ne_of_beq_eq_false rfl)).trans ((fT_ne _ _ (Nat.ne_of_beq_eq_false rfl)).trans ((fT_ne _ _ (Nat.ne_of_beq_eq_false rfl)).trans ((fT_ne _ _ (Nat.ne_of_beq_eq_false rfl)).trans ((fT_ne _ _ (Nat.ne_of_beq_eq_false rfl)).trans (fT_ne _ _ (Nat.ne_of_beq_eq_false rfl)))))))).trans ((fT_id _ _ ((fT_ne _ _ (Nat.ne_of_beq_eq_false rfl)).trans ((fT_ne _ _ (Nat.ne_of_beq_eq_false rfl)).trans ((fT_ne _ _ (Nat.ne_of_beq_eq_false rfl)).trans ((fT_ne _ _ (Nat.ne_of_beq_eq_false rfl)).trans (fT_ne _ _ (Nat.ne_of_beq_eq_false rfl))))))).trans ((fT_id _ _ ((fT_ne _ _ (Nat.ne_of_beq_eq_false rfl)).trans ((fT_ne _ _ (Nat.ne_of_beq_eq_false rfl)).trans ((fT_ne _ _ (Nat.ne_of_beq_eq_false rfl)).trans (fT_ne _ _ (Nat.ne_of_beq_eq_false rfl)))))).trans ((fT_id _ _ ((fT_ne _ _ (Nat.ne_of_beq_eq_false rfl)).trans ((fT_ne _ _ (Nat.ne_of_beq_eq_false rfl)).trans (fT_ne _ _ (Nat.ne_of_beq_eq_false rfl))))).trans ((fT_id _ _ ((fT_ne _ _ (Nat.ne_of_beq_eq_false rfl)).trans (fT_ne _ _ (Nat.ne_of_beq_eq_false rfl)))).trans ((fT_id _ _ (fT_ne _ _ (Nat.ne_of_beq_eq_false rfl))).trans (fT_id _ _ (rfl))))))))))
    have hP : va_P (dC, dI) vwCl (WR a k h0 (fT (fT (fT (fT (fT (fT (fT (fT (fT vi 0 1) 119 (nI nd0)) 116 (vi 116)) 5 (vi 5)) 6 (vi 6)) 7 (vi 7)) 11 (vi 11)) 118 (vi 118)) 117 (vi 117)) (fT vj 12 (vj 12)) (fT (fT (fT (fT (fT (fT (fT (fT (fT (fT vF 71 (vF 71)) 72 (vF 72)) 73 (vF 73)) 0 (vF 0)) 4 (vF 4)) 6 (vF 6)) 5 (vF 5)) 2 (vF 2)) 3 (vF 3)) 74 (vF 74)) vG) H := by rw [e9]; exact hP
    have hD : va_D A (WR a k h0 (fT (fT (fT (fT (fT (fT (fT (fT (fT vi 0 1) 119 (nI nd0)) 116 (vi 116)) 5 (vi 5)) 6 (vi 6)) 7 (vi 7)) 11 (vi 11)) 118 (vi 118)) 117 (vi 117)) (fT vj 12 (vj 12)) (fT (fT (fT (fT (fT (fT (fT (fT (fT (fT vF 71 (vF 71)) 72 (vF 72)) 73 (vF 73)) 0 (vF 0)) 4 (vF 4)) 6 (vF 6)) 5 (vF 5)) 2 (vF 2)) 3 (vF 3)) 74 (vF 74)) vG) := by rw [e9]; exact hD
    clear e9
    have e9 : fT (fT (fT vG 1 (vG 1)) 7 (vG 7)) 8 (vG 8) = vG := (fT_id _ _ ((fT_ne _ _ (Nat.ne_of_beq_eq_false rfl)).trans (fT_ne _ _ (Nat.ne_of_beq_eq_false rfl)))).trans ((fT_id _ _ (fT_ne _ _ (Nat.ne_of_beq_eq_false rfl))).trans (fT_id _ _ (rfl)))
    have hP : va_P (dC, dI) vwCl (WR a k h0 (fT (fT (fT (fT (fT (fT (fT (fT (fT vi 0 1) 119 (nI nd0)) 116 (vi 116)) 5 (vi 5)) 6 (vi 6)) 7 (vi 7)) 11 (vi 11)) 118 (vi 118)) 117 (vi 117)) (fT vj 12 (vj 12)) (fT (fT (fT (fT (fT (fT (fT (fT (fT (fT vF 71 (vF 71)) 72 (vF 72)) 73 (vF 73)) 0 (vF 0)) 4 (vF 4)) 6 (vF 6)) 5 (vF 5)) 2 (vF 2)) 3 (vF 3)) 74 (vF 74)) (fT (fT (fT vG 1 (vG 1)) 7 (vG 7)) 8 (vG 8))) H := by rw [e9]; exact hP
    have hD : va_D A (WR a k h0 (fT (fT (fT (fT (fT (fT (fT (fT (fT vi 0 1) 119 (nI nd0)) 116 (vi 116)) 5 (vi 5)) 6 (vi 6)) 7 (vi 7)) 11 (vi 11)) 118 (vi 118)) 117 (vi 117)) (fT vj 12 (vj 12)) (fT (fT (fT (fT (fT (fT (fT (fT (fT (fT vF 71 (vF 71)) 72 (vF 72)) 73 (vF 73)) 0 (vF 0)) 4 (vF 4)) 6 (vF 6)) 5 (vF 5)) 2 (vF 2)) 3 (vF 3)) 74 (vF 74)) (fT (fT (fT vG 1 (vG 1)) 7 (vG 7)) 8 (vG 8))) := by rw [e9]; exact hD
    clear e9
    exact W.iret (v := 0) hx hb hr (fun t9_ ht hW => ⟨⟨0, ((vF 0), (vF 2), (vF 3), (vF 4), (vF 5), (vF 6), (vF 74), (vG 1), (vG 7), (vG 8), (vj 12), (vi 11), (vi 5), (vi 6), (vi 7), (vF 71), (vF 72), (vF 73), (vi 116), (vi 118), (vi 117), 1, nd0, mg), rfl, by (try dsimp only); exact ⟨hBg, hAn, hpv, fun q _ _ => rfl, hnd28, hp1⟩, by rw [ht]; exact hP, hD⟩, hS.F ht⟩) hS.2.2 dX12_prove_24
  · have t_5 : ¬ ((vi 95)).toInt = 0 := toI_neq c_5 rfl (by decide)
    refine lv_iconst (v := 0) hx hb dX12_prove_8 (by decide) ?_
    refine lv_goto (tgt := 13) hx hb dX12_prove_9 (by decide) ?_
    refine va_put (D := (dC, dI)) (ci := 12) (v := .int 0) (ty := .int) (C := RX12) (T := TX12) (N := 163) (fs := fM (vS a vi vj)) hx hb hts iwsRX12_prove_in12 tyX12 tyX12_ok nmX12 hown hK hP hD hS 0 rfl rfl 0 (by decide) (hts (.fieldLink RX12 348 "OptimaWorksModel" "thrown" "I") (by decide +kernel)) (fun _ h9 => h9) rfl (by decide +kernel) rfl rfl (Nat.le_of_ble_eq_true rfl) dX12_prove_13 (fun H locs hP hD hS => ?_)
    have hP : va_P (dC, dI) vwCl (WR a k h0 (fT vi 0 0) vj vF vG) H := by rw [← WR_i 0 _ rfl]; exact hP
    have hD : va_D A (WR a k h0 (fT vi 0 0) vj vF vG) := by rw [← WR_i 0 _ rfl]; exact hD
    refine lv_aload_n hx hb dX12_prove_16 rfl (lv_at hl 0 rfl) ?_
    refine va_get (D := (dC, dI)) (ci := 12) (v := .int 0) (C := RX12) (T := TX12) (N := 163) (fs := fM (vS a (fT vi 0 0) vj)) hx hb hts iwsRX12_prove_in12 hown hK hP 0 rfl rfl 0 (by decide) (hts (.fieldLink RX12 348 "OptimaWorksModel" "thrown" "I") (by decide +kernel)) (fun _ h9 => h9) rfl dX12_prove_17 ?_
    refine lv_if_le (tgt := 25) hx hb dX12_prove_20 (by decide) (fun _ => ?_) (fun c9 => absurd (by decide) c9)
    refine lv_aload_n hx hb dX12_prove_25 rfl (lv_at hl 0 rfl) ?_
    have hFc := allFree hD hS hA
    refine va_callv (va_runV (As := []) (rest := []) ⟨hx, hb, hml, hown, hts⟩ (r_X12_listNeeds l dC dI a k h0 (fT vi 0 0) vj vF vG vn mr (by first | with_reducible assumption | decide | omega | rfl | assumption) (by first | with_reducible assumption | decide | omega | rfl | assumption) (by first | with_reducible assumption | decide | omega | rfl | assumption) (by first | with_reducible assumption | decide | omega | rfl | assumption) H.size) (cwV 0 hts gwsRX12_prove_0 rfl rfl rfl hd_yX12_listNeeds_RX12 (by decide +kernel)) (fz_pre (va_recv hK hP (ci := 12) (q0 := 0) rfl rfl) hP hK hD) rfl rfl hl.1 rfl (lv_room (Nat.le_of_ble_eq_true rfl)) dX12_prove_26 (by decide +kernel)) hS (fun q _ h => hFc q h) hFc (fun u t9_ H locs ht hvm hw9 hB9 hz1 hk1 hS => ?_)
    revert u
    refine fz_p5 ?_
    intro f7126 f7226 f7326 z26 nd26 hw9 hB9
    try dsimp only at hw9 hB9
    have hP : va_P (dC, dI) vwCl (WR a k h0 (fT (fT vi 0 0) 119 (nI nd26)) vj (fT (fT (fT vF 71 f7126) 72 f7226) 73 f7326) vG) H := fz_P ht hB9.1
    have hD : va_D A (WR a k h0 (fT (fT vi 0 0) 119 (nI nd26)) vj (fT (fT (fT vF 71 f7126) 72 f7226) 73 f7326) vG) := hB9.2.weaken (fun _ q _ h => hFc q.1 h)
    have f26_0 := hw9
    try dsimp only at f26_0
    refine lv_aload_n hx hb dX12_prove_29 rfl (lv_at hl 0 rfl) ?_
    refine lv_aload_n hx hb dX12_prove_30 rfl (lv_at hl 0 rfl) ?_
    refine lv_iconst (v := 1) hx hb dX12_prove_31 (by decide) ?_
    refine lv_iconst (v := 1) hx hb dX12_prove_32 (by decide) ?_
    have hFc := allFree hD hS hA
    refine va_calli (va_runV (As := [.int 1, .int 1]) (rest := [.ref h0]) ⟨hx, hb, hml, hown, hts⟩ (r_X12_solves l dC dI a k h0 (fT (fT vi 0 0) 119 (nI nd26)) vj (fT (fT (fT vF 71 f7126) 72 f7226) 73 f7326) vG 1 1 vn mr gq mg hBg (by first | with_reducible assumption | decide | omega | rfl | assumption) (by first | with_reducible assumption | decide | omega | rfl | assumption) (by first | with_reducible assumption | decide | omega | rfl | assumption) (by first | with_reducible assumption | decide | omega | rfl | assumption) (by first | with_reducible assumption | decide | omega | rfl | assumption) (by first | with_reducible assumption | decide | omega | rfl | assumption) (by first | with_reducible assumption | decide | omega | rfl | assumption) (fun h9 => absurd h9 (by decide)) (by first | with_reducible assumption | decide | omega | rfl | assumption) H.size) (cwV 2 hts gwsRX12_prove_1 rfl rfl rfl hd_yX12_solves_RX12 (by decide +kernel)) (fz_pre (va_recv hK hP (ci := 12) (q0 := 0) rfl rfl) hP hK hD) rfl rfl hl.1 rfl (lv_room (Nat.le_of_ble_eq_true rfl)) dX12_prove_33 (by decide +kernel)) hS (fun q _ h => hFc q h) hFc (fun r33 u t9_ H locs ht hvm hw9 hB9 hz1 hk1 hS => ?_)
    revert u
    refine fz_p15 ?_
    intro g33 f2w33 f3w33 f433 f533 f633 gs33 F33 L833 qd33 fx33 cn233 rn233 gn233 m233 hw9 hB9
    try dsimp only at hw9 hB9
    have hP : va_P (dC, dI) vwCl (WR a k h0 (fT (fT (fT (fT (fT (fT (fT vi 0 0) 119 (nI nd26)) 116 fx33) 5 cn233) 6 rn233) 7 gn233) 11 0) (fT vj 12 qd33) (fT (fT (fT (fT (fT (fT (fT (fT (fT vF 71 f7126) 72 f7226) 73 f7326) 0 g33) 4 f433) 6 f633) 5 f533) 2 f2w33) 3 f3w33) (fT (fT (fT vG 1 gs33) 7 F33) 8 L833)) H := fz_P ht hB9.1
    have hD : va_D A (WR a k h0 (fT (fT (fT (fT (fT (fT (fT vi 0 0) 119 (nI nd26)) 116 fx33) 5 cn233) 6 rn233) 7 gn233) 11 0) (fT vj 12 qd33) (fT (fT (fT (fT (fT (fT (fT (fT (fT vF 71 f7126) 72 f7226) 73 f7326) 0 g33) 4 f433) 6 f633) 5 f533) 2 f2w33) 3 f3w33) (fT (fT (fT vG 1 gs33) 7 F33) 8 L833)) := hB9.2.weaken (fun _ q _ h => hFc q.1 h)
    revert hw9
    refine fz_a5 ?_
    intro f33_0 f33_1 f33_2 f33_3 f33_4
    refine W.cut (pc := 47) (fun H locs ls stk => ∃ (sh : Int32), ((sh = 0 ∧ 0 < m233 1028 ∧ ∀ g, g < gq → 0 < m233 (1033 + g)) ∨ sh = 1) ∧  stk = [] ∧ va_P (dC, dI) vwCl (WR a k h0 (fT (fT (fT (fT (fT (fT (fT (fT vi 0 0) 119 (nI nd26)) 116 fx33) 5 cn233) 6 rn233) 7 gn233) 11 0) 118 sh) (fT vj 12 qd33) (fT (fT (fT (fT (fT (fT (fT (fT (fT vF 71 f7126) 72 f7226) 73 f7326) 0 g33) 4 f433) 6 f633) 5 f533) 2 f2w33) 3 f3w33) (fT (fT (fT vG 1 gs33) 7 F33) 8 L833)) H ∧ va_D A (WR a k h0 (fT (fT (fT (fT (fT (fT (fT (fT vi 0 0) 119 (nI nd26)) 116 fx33) 5 cn233) 6 rn233) 7 gn233) 11 0) 118 sh) (fT vj 12 qd33) (fT (fT (fT (fT (fT (fT (fT (fT (fT vF 71 f7126) 72 f7226) 73 f7326) 0 g33) 4 f433) 6 f633) 5 f533) 2 f2w33) 3 f3w33) (fT (fT (fT vG 1 gs33) 7 F33) 8 L833)) ∧ va_S A s.heap H locs ∧ lv_has ls 3 [(0, .ref h0)]) (fun join1 => ?_) ?_
    · refine lv_if_ne (tgt := 43) hx hb dX12_prove_36 (by decide) (fun c_36 => ?_) (fun c_36 => ?_)
      · have t_36 : (r33).toInt ≠ 0 := toI_ne c_36 rfl (by decide)
        refine lv_iconst (v := 0) hx hb dX12_prove_43 (by decide) ?_
        refine va_put (D := (dC, dI)) (ci := 12) (v := .int 0) (ty := .boolean) (C := RX12) (T := TX12) (N := 163) (fs := fM (vS a (fT (fT (fT (fT (fT (fT (fT vi 0 0) 119 (nI nd26)) 116 fx33) 5 cn233) 6 rn233) 7 gn233) 11 0) (fT vj 12 qd33))) hx hb hts iwsRX12_prove_in12 tyX12 tyX12_ok nmX12 hown hK hP hD hS 0 rfl rfl 118 (by decide) (hts (.fieldLink RX12 903 "OptimaWorksModel" "isShort" "Z") (by decide +kernel)) (fun _ h9 => h9) rfl (by decide +kernel) rfl rfl (Nat.le_of_ble_eq_true rfl) dX12_prove_44 (fun H locs hP hD hS => ?_)
        have hP : va_P (dC, dI) vwCl (WR a k h0 (fT (fT (fT (fT (fT (fT (fT (fT vi 0 0) 119 (nI nd26)) 116 fx33) 5 cn233) 6 rn233) 7 gn233) 11 0) 118 0) (fT vj 12 qd33) (fT (fT (fT (fT (fT (fT (fT (fT (fT vF 71 f7126) 72 f7226) 73 f7326) 0 g33) 4 f433) 6 f633) 5 f533) 2 f2w33) 3 f3w33) (fT (fT (fT vG 1 gs33) 7 F33) 8 L833)) H := by rw [← WR_i 118 _ rfl]; exact hP
        have hD : va_D A (WR a k h0 (fT (fT (fT (fT (fT (fT (fT (fT vi 0 0) 119 (nI nd26)) 116 fx33) 5 cn233) 6 rn233) 7 gn233) 11 0) 118 0) (fT vj 12 qd33) (fT (fT (fT (fT (fT (fT (fT (fT (fT vF 71 f7126) 72 f7226) 73 f7326) 0 g33) 4 f433) 6 f633) 5 f533) 2 f2w33) 3 f3w33) (fT (fT (fT vG 1 gs33) 7 F33) 8 L833)) := by rw [← WR_i 118 _ rfl]; exact hD
        have hl : lv_has _ _ ([(0, .ref h0)]) := lv_sub hl [0] rfl
        exact join1 _ _ _ _ ⟨0, Or.inl ⟨rfl, (f33_4.resolve_left c_36).resolve_left (by decide)⟩, rfl, hP, hD, hS, hl⟩
      · have t_36 : (r33).toInt = 0 := toI_nne c_36 rfl (by decide)
        refine lv_iconst (v := 1) hx hb dX12_prove_39 (by decide) ?_
        refine lv_goto (tgt := 44) hx hb dX12_prove_40 (by decide) ?_
        refine va_put (D := (dC, dI)) (ci := 12) (v := .int 1) (ty := .boolean) (C := RX12) (T := TX12) (N := 163) (fs := fM (vS a (fT (fT (fT (fT (fT (fT (fT vi 0 0) 119 (nI nd26)) 116 fx33) 5 cn233) 6 rn233) 7 gn233) 11 0) (fT vj 12 qd33))) hx hb hts iwsRX12_prove_in12 tyX12 tyX12_ok nmX12 hown hK hP hD hS 0 rfl rfl 118 (by decide) (hts (.fieldLink RX12 903 "OptimaWorksModel" "isShort" "Z") (by decide +kernel)) (fun _ h9 => h9) rfl (by decide +kernel) rfl rfl (Nat.le_of_ble_eq_true rfl) dX12_prove_44 (fun H locs hP hD hS => ?_)
        have hP : va_P (dC, dI) vwCl (WR a k h0 (fT (fT (fT (fT (fT (fT (fT (fT vi 0 0) 119 (nI nd26)) 116 fx33) 5 cn233) 6 rn233) 7 gn233) 11 0) 118 1) (fT vj 12 qd33) (fT (fT (fT (fT (fT (fT (fT (fT (fT vF 71 f7126) 72 f7226) 73 f7326) 0 g33) 4 f433) 6 f633) 5 f533) 2 f2w33) 3 f3w33) (fT (fT (fT vG 1 gs33) 7 F33) 8 L833)) H := by rw [← WR_i 118 _ rfl]; exact hP
        have hD : va_D A (WR a k h0 (fT (fT (fT (fT (fT (fT (fT (fT vi 0 0) 119 (nI nd26)) 116 fx33) 5 cn233) 6 rn233) 7 gn233) 11 0) 118 1) (fT vj 12 qd33) (fT (fT (fT (fT (fT (fT (fT (fT (fT vF 71 f7126) 72 f7226) 73 f7326) 0 g33) 4 f433) 6 f633) 5 f533) 2 f2w33) 3 f3w33) (fT (fT (fT vG 1 gs33) 7 F33) 8 L833)) := by rw [← WR_i 118 _ rfl]; exact hD
        have hl : lv_has _ _ ([(0, .ref h0)]) := lv_sub hl [0] rfl
        exact join1 _ _ _ _ ⟨1, Or.inr rfl, rfl, hP, hD, hS, hl⟩
    · rintro H locs ls stk ⟨sh, hsh, rfl, hP, hD, hS, hl⟩
      refine lv_aload_n hx hb dX12_prove_47 rfl (lv_at hl 0 rfl) ?_
      refine lv_iconst (v := 0) hx hb dX12_prove_48 (by decide) ?_
      refine va_put (D := (dC, dI)) (ci := 12) (v := .int 0) (ty := .boolean) (C := RX12) (T := TX12) (N := 163) (fs := fM (vS a (fT (fT (fT (fT (fT (fT (fT (fT vi 0 0) 119 (nI nd26)) 116 fx33) 5 cn233) 6 rn233) 7 gn233) 11 0) 118 sh) (fT vj 12 qd33))) hx hb hts iwsRX12_prove_in12 tyX12 tyX12_ok nmX12 hown hK hP hD hS 0 rfl rfl 116 (by decide) (hts (.fieldLink RX12 829 "OptimaWorksModel" "fixes" "Z") (by decide +kernel)) (fun _ h9 => h9) rfl (by decide +kernel) rfl rfl (Nat.le_of_ble_eq_true rfl) dX12_prove_49 (fun H locs hP hD hS => ?_)
      have e9 : fT (fT (fT (fT (fT (fT (fT (fT vi 0 0) 119 (nI nd26)) 116 0) 5 cn233) 6 rn233) 7 gn233) 11 0) 118 sh = fT (fT (fT (fT (fT (fT (fT (fT (fT vi 0 0) 119 (nI nd26)) 116 fx33) 5 cn233) 6 rn233) 7 gn233) 11 0) 118 sh) 116 0 := ((fT_sw _ _ _ (Nat.ne_of_beq_eq_false rfl)).trans (congrArg (fun g9 => fT g9 118 sh) ((fT_sw _ _ _ (Nat.ne_of_beq_eq_false rfl)).trans (congrArg (fun g9 => fT g9 11 0) ((fT_sw _ _ _ (Nat.ne_of_beq_eq_false rfl)).trans (congrArg (fun g9 => fT g9 7 gn233) ((fT_sw _ _ _ (Nat.ne_of_beq_eq_false rfl)).trans (congrArg (fun g9 => fT g9 6 rn233) ((fT_sw _ _ _ (Nat.ne_of_beq_eq_false rfl)).trans (congrArg (fun g9 => fT g9 5 cn233) (fT_sm _ _ _ _))))))))))).symm
      have hP : va_P (dC, dI) vwCl (WR a k h0 (fT (fT (fT (fT (fT (fT (fT (fT vi 0 0) 119 (nI nd26)) 116 0) 5 cn233) 6 rn233) 7 gn233) 11 0) 118 sh) (fT vj 12 qd33) (fT (fT (fT (fT (fT (fT (fT (fT (fT vF 71 f7126) 72 f7226) 73 f7326) 0 g33) 4 f433) 6 f633) 5 f533) 2 f2w33) 3 f3w33) (fT (fT (fT vG 1 gs33) 7 F33) 8 L833)) H := by rw [e9, ← WR_i 116 _ rfl]; exact hP
      have hD : va_D A (WR a k h0 (fT (fT (fT (fT (fT (fT (fT (fT vi 0 0) 119 (nI nd26)) 116 0) 5 cn233) 6 rn233) 7 gn233) 11 0) 118 sh) (fT vj 12 qd33) (fT (fT (fT (fT (fT (fT (fT (fT (fT vF 71 f7126) 72 f7226) 73 f7326) 0 g33) 4 f433) 6 f633) 5 f533) 2 f2w33) 3 f3w33) (fT (fT (fT vG 1 gs33) 7 F33) 8 L833)) := by rw [e9, ← WR_i 116 _ rfl]; exact hD
      clear e9
      refine lv_aload_n hx hb dX12_prove_52 rfl (lv_at hl 0 rfl) ?_
      refine va_get (D := (dC, dI)) (ci := 12) (v := .int sh) (C := RX12) (T := TX12) (N := 163) (fs := fM (vS a (fT (fT (fT (fT (fT (fT (fT (fT vi 0 0) 119 (nI nd26)) 116 0) 5 cn233) 6 rn233) 7 gn233) 11 0) 118 sh) (fT vj 12 qd33))) hx hb hts iwsRX12_prove_in12 hown hK hP 0 rfl rfl 118 (by decide) (hts (.fieldLink RX12 903 "OptimaWorksModel" "isShort" "Z") (by decide +kernel)) (fun _ h9 => h9) rfl dX12_prove_53 ?_
      refine W.cut (pc := 70) (fun H locs ls stk => ∃ (gp : Nat → Int32) (f2wp : Nat → Int32) (f3wp : Nat → Int32) (f4p : Nat → Int32) (f5p : Nat → Int32) (f6p : Nat → Int32) (f74p : Nat → Int32) (gsp : Nat → Int64) (Fp : Nat → Int64) (L8p : Nat → Int64) (qdp : Int64) (qkp : Int32) (cn2p : Int32) (rn2p : Int32) (gn2p : Int32) (mP : Nat → Int), (Bg gp mP) ∧ ((sh ≠ 0 ∧ Sz 294 (mP 1046) ∧ Sz 258 (mP 1047)) ∨ (Sz 224 (mP 1046) ∧ Sz 201 (mP 1047))) ∧ (0 < mP 1051) ∧ (∀ q, 1000 ≤ q → q < 1045 → mP q = m233 q) ∧  stk = [] ∧ va_P (dC, dI) vwCl (WR a k h0 (fT (fT (fT (fT (fT (fT (fT (fT vi 0 0) 119 (nI nd26)) 116 0) 5 cn2p) 6 rn2p) 7 gn2p) 11 qkp) 118 sh) (fT vj 12 qdp) (fT (fT (fT (fT (fT (fT (fT (fT (fT (fT vF 71 f7126) 72 f7226) 73 f7326) 0 gp) 4 f4p) 6 f6p) 5 f5p) 2 f2wp) 3 f3wp) 74 f74p) (fT (fT (fT vG 1 gsp) 7 Fp) 8 L8p)) H ∧ va_D A (WR a k h0 (fT (fT (fT (fT (fT (fT (fT (fT vi 0 0) 119 (nI nd26)) 116 0) 5 cn2p) 6 rn2p) 7 gn2p) 11 qkp) 118 sh) (fT vj 12 qdp) (fT (fT (fT (fT (fT (fT (fT (fT (fT (fT vF 71 f7126) 72 f7226) 73 f7326) 0 gp) 4 f4p) 6 f6p) 5 f5p) 2 f2wp) 3 f3wp) 74 f74p) (fT (fT (fT vG 1 gsp) 7 Fp) 8 L8p)) ∧ va_S A s.heap H locs ∧ lv_has ls 3 [(0, .ref h0)]) (fun join2 => ?_) ?_
      · refine lv_if_ne (tgt := 66) hx hb dX12_prove_56 (by decide) (fun c_56 => ?_) (fun c_56 => ?_)
        · have t_56 : (sh).toInt ≠ 0 := toI_ne c_56 rfl (by decide)
          refine lv_aload_n hx hb dX12_prove_66 rfl (lv_at hl 0 rfl) ?_
          have hFc := allFree hD hS hA
          refine va_callv (va_runV (As := []) (rest := []) ⟨hx, hb, hml, hown, hts⟩ (r_X12_shortBest l dC dI a k h0 (fT (fT (fT (fT (fT (fT (fT (fT vi 0 0) 119 (nI nd26)) 116 0) 5 cn233) 6 rn233) 7 gn233) 11 0) 118 sh) (fT vj 12 qd33) (fT (fT (fT (fT (fT (fT (fT (fT (fT vF 71 f7126) 72 f7226) 73 f7326) 0 g33) 4 f433) 6 f633) 5 f533) 2 f2w33) 3 f3w33) (fT (fT (fT vG 1 gs33) 7 F33) 8 L833) vn mr gq z26 nd26 m233 f33_0 (by first | with_reducible assumption | decide | omega | rfl | assumption) (by first | with_reducible assumption | decide | omega | rfl | assumption) (by first | with_reducible assumption | decide | omega | rfl | assumption) (by first | with_reducible assumption | decide | omega | rfl | assumption) (by first | with_reducible assumption | decide | omega | rfl | assumption) (by first | with_reducible assumption | decide | omega | rfl | assumption) (rfl) (f26_0) (c_56) H.size) (cwV 0 hts gwsRX12_prove_2 rfl rfl rfl hd_yX12_shortBest_RX12 (by decide +kernel)) (fz_pre (va_recv hK hP (ci := 12) (q0 := 0) rfl rfl) hP hK hD) rfl rfl hl.1 rfl (lv_room (Nat.le_of_ble_eq_true rfl)) dX12_prove_67 (by decide +kernel)) hS (fun q _ h => hFc q h) hFc (fun u t9_ H locs ht hvm hw9 hB9 hz1 hk1 hS => ?_)
          revert u
          refine fz_p15 ?_
          intro g67 f2w67 f3w67 f467 f567 f667 f7467 gs67 F67 L867 qd67 m267 cn267 rn267 gn267 hw9 hB9
          try dsimp only at hw9 hB9
          have hP : va_P (dC, dI) vwCl (WR a k h0 (fT (fT (fT (fT (fT (fT (fT (fT (fT (fT (fT (fT vi 0 0) 119 (nI nd26)) 116 0) 5 cn233) 6 rn233) 7 gn233) 11 0) 118 sh) 5 cn267) 6 rn267) 7 gn267) 11 0) (fT (fT vj 12 qd33) 12 qd67) (fT (fT (fT (fT (fT (fT (fT (fT (fT (fT (fT (fT (fT (fT (fT (fT vF 71 f7126) 72 f7226) 73 f7326) 0 g33) 4 f433) 6 f633) 5 f533) 2 f2w33) 3 f3w33) 74 f7467) 0 g67) 4 f467) 6 f667) 2 f2w67) 3 f3w67) 5 f567) (fT (fT (fT (fT (fT (fT vG 1 gs33) 7 F33) 8 L833) 1 gs67) 7 F67) 8 L867)) H := fz_P ht hB9.1
          have hD : va_D A (WR a k h0 (fT (fT (fT (fT (fT (fT (fT (fT (fT (fT (fT (fT vi 0 0) 119 (nI nd26)) 116 0) 5 cn233) 6 rn233) 7 gn233) 11 0) 118 sh) 5 cn267) 6 rn267) 7 gn267) 11 0) (fT (fT vj 12 qd33) 12 qd67) (fT (fT (fT (fT (fT (fT (fT (fT (fT (fT (fT (fT (fT (fT (fT (fT vF 71 f7126) 72 f7226) 73 f7326) 0 g33) 4 f433) 6 f633) 5 f533) 2 f2w33) 3 f3w33) 74 f7467) 0 g67) 4 f467) 6 f667) 2 f2w67) 3 f3w67) 5 f567) (fT (fT (fT (fT (fT (fT vG 1 gs33) 7 F33) 8 L833) 1 gs67) 7 F67) 8 L867)) := hB9.2.weaken (fun _ q _ h => hFc q.1 h)
          have e9 : fT (fT (fT (fT (fT (fT (fT (fT vi 0 0) 119 (nI nd26)) 116 0) 5 cn267) 6 rn267) 7 gn267) 11 0) 118 sh = fT (fT (fT (fT (fT (fT (fT (fT (fT (fT (fT (fT vi 0 0) 119 (nI nd26)) 116 0) 5 cn233) 6 rn233) 7 gn233) 11 0) 118 sh) 5 cn267) 6 rn267) 7 gn267) 11 0 := ((congrArg (fun g9 => fT (fT (fT g9 6 rn267) 7 gn267) 11 0) ((fT_sw _ _ _ (Nat.ne_of_beq_eq_false rfl)).trans (congrArg (fun g9 => fT g9 118 sh) ((fT_sw _ _ _ (Nat.ne_of_beq_eq_false rfl)).trans (congrArg (fun g9 => fT g9 11 0) ((fT_sw _ _ _ (Nat.ne_of_beq_eq_false rfl)).trans (congrArg (fun g9 => fT g9 7 gn233) ((fT_sw _ _ _ (Nat.ne_of_beq_eq_false rfl)).trans (congrArg (fun g9 => fT g9 6 rn233) (fT_sm _ _ _ _)))))))))).trans ((congrArg (fun g9 => fT (fT g9 7 gn267) 11 0) ((fT_sw _ _ _ (Nat.ne_of_beq_eq_false rfl)).trans (congrArg (fun g9 => fT g9 118 sh) ((fT_sw _ _ _ (Nat.ne_of_beq_eq_false rfl)).trans (congrArg (fun g9 => fT g9 11 0) ((fT_sw _ _ _ (Nat.ne_of_beq_eq_false rfl)).trans (congrArg (fun g9 => fT g9 7 gn233) (fT_sm _ _ _ _)))))))).trans ((congrArg (fun g9 => fT g9 11 0) ((fT_sw _ _ _ (Nat.ne_of_beq_eq_false rfl)).trans (congrArg (fun g9 => fT g9 118 sh) ((fT_sw _ _ _ (Nat.ne_of_beq_eq_false rfl)).trans (congrArg (fun g9 => fT g9 11 0) (fT_sm _ _ _ _)))))).trans ((fT_sw _ _ _ (Nat.ne_of_beq_eq_false rfl)).trans (congrArg (fun g9 => fT g9 118 sh) (fT_sm _ _ _ _)))))).symm
          rw [← e9] at hP hD
          clear e9
          have e9 : fT vj 12 qd67 = fT (fT vj 12 qd33) 12 qd67 := (fT_sm _ _ _ _).symm
          rw [← e9] at hP hD
          clear e9
          have e9 : fT (fT (fT (fT (fT (fT (fT (fT (fT (fT vF 71 f7126) 72 f7226) 73 f7326) 0 g67) 4 f467) 6 f667) 5 f567) 2 f2w67) 3 f3w67) 74 f7467 = fT (fT (fT (fT (fT (fT (fT (fT (fT (fT (fT (fT (fT (fT (fT (fT vF 71 f7126) 72 f7226) 73 f7326) 0 g33) 4 f433) 6 f633) 5 f533) 2 f2w33) 3 f3w33) 74 f7467) 0 g67) 4 f467) 6 f667) 2 f2w67) 3 f3w67) 5 f567 := ((congrArg (fun g9 => fT (fT (fT (fT (fT g9 4 f467) 6 f667) 2 f2w67) 3 f3w67) 5 f567) ((fT_sw _ _ _ (Nat.ne_of_beq_eq_false rfl)).trans (congrArg (fun g9 => fT g9 74 f7467) ((fT_sw _ _ _ (Nat.ne_of_beq_eq_false rfl)).trans (congrArg (fun g9 => fT g9 3 f3w33) ((fT_sw _ _ _ (Nat.ne_of_beq_eq_false rfl)).trans (congrArg (fun g9 => fT g9 2 f2w33) ((fT_sw _ _ _ (Nat.ne_of_beq_eq_false rfl)).trans (congrArg (fun g9 => fT g9 5 f533) ((fT_sw _ _ _ (Nat.ne_of_beq_eq_false rfl)).trans (congrArg (fun g9 => fT g9 6 f633) ((fT_sw _ _ _ (Nat.ne_of_beq_eq_false rfl)).trans (congrArg (fun g9 => fT g9 4 f433) (fT_sm _ _ _ _)))))))))))))).trans ((congrArg (fun g9 => fT (fT (fT (fT g9 6 f667) 2 f2w67) 3 f3w67) 5 f567) ((fT_sw _ _ _ (Nat.ne_of_beq_eq_false rfl)).trans (congrArg (fun g9 => fT g9 74 f7467) ((fT_sw _ _ _ (Nat.ne_of_beq_eq_false rfl)).trans (congrArg (fun g9 => fT g9 3 f3w33) ((fT_sw _ _ _ (Nat.ne_of_beq_eq_false rfl)).trans (congrArg (fun g9 => fT g9 2 f2w33) ((fT_sw _ _ _ (Nat.ne_of_beq_eq_false rfl)).trans (congrArg (fun g9 => fT g9 5 f533) ((fT_sw _ _ _ (Nat.ne_of_beq_eq_false rfl)).trans (congrArg (fun g9 => fT g9 6 f633) (fT_sm _ _ _ _)))))))))))).trans ((congrArg (fun g9 => fT (fT (fT g9 2 f2w67) 3 f3w67) 5 f567) ((fT_sw _ _ _ (Nat.ne_of_beq_eq_false rfl)).trans (congrArg (fun g9 => fT g9 74 f7467) ((fT_sw _ _ _ (Nat.ne_of_beq_eq_false rfl)).trans (congrArg (fun g9 => fT g9 3 f3w33) ((fT_sw _ _ _ (Nat.ne_of_beq_eq_false rfl)).trans (congrArg (fun g9 => fT g9 2 f2w33) ((fT_sw _ _ _ (Nat.ne_of_beq_eq_false rfl)).trans (congrArg (fun g9 => fT g9 5 f533) (fT_sm _ _ _ _)))))))))).trans ((congrArg (fun g9 => fT (fT g9 3 f3w67) 5 f567) ((fT_sw _ _ _ (Nat.ne_of_beq_eq_false rfl)).trans (congrArg (fun g9 => fT g9 74 f7467) ((fT_sw _ _ _ (Nat.ne_of_beq_eq_false rfl)).trans (congrArg (fun g9 => fT g9 3 f3w33) (fT_sm _ _ _ _)))))).trans ((congrArg (fun g9 => fT g9 5 f567) ((fT_sw _ _ _ (Nat.ne_of_beq_eq_false rfl)).trans (congrArg (fun g9 => fT g9 74 f7467) (fT_sm _ _ _ _)))).trans ((fT_sw _ _ _ (Nat.ne_of_beq_eq_false rfl)).trans (congrArg (fun g9 => fT g9 74 f7467) ((fT_sw _ _ _ (Nat.ne_of_beq_eq_false rfl)).trans (congrArg (fun g9 => fT g9 3 f3w67) ((fT_sw _ _ _ (Nat.ne_of_beq_eq_false rfl)).trans (congrArg (fun g9 => fT g9 2 f2w67) (fT_sm _ _ _ _)))))))))))).symm
          rw [← e9] at hP hD
          clear e9
          have e9 : fT (fT (fT vG 1 gs67) 7 F67) 8 L867 = fT (fT (fT (fT (fT (fT vG 1 gs33) 7 F33) 8 L833) 1 gs67) 7 F67) 8 L867 := ((congrArg (fun g9 => fT (fT g9 7 F67) 8 L867) ((fT_sw _ _ _ (Nat.ne_of_beq_eq_false rfl)).trans (congrArg (fun g9 => fT g9 8 L833) ((fT_sw _ _ _ (Nat.ne_of_beq_eq_false rfl)).trans (congrArg (fun g9 => fT g9 7 F33) (fT_sm _ _ _ _)))))).trans ((congrArg (fun g9 => fT g9 8 L867) ((fT_sw _ _ _ (Nat.ne_of_beq_eq_false rfl)).trans (congrArg (fun g9 => fT g9 8 L833) (fT_sm _ _ _ _)))).trans (fT_sm _ _ _ _))).symm
          rw [← e9] at hP hD
          clear e9
          have hP : va_P (dC, dI) vwCl (WR a k h0 (fT (fT (fT (fT (fT (fT (fT (fT vi 0 0) 119 (nI nd26)) 116 0) 5 cn267) 6 rn267) 7 gn267) 11 0) 118 sh) (fT vj 12 qd67) (fT (fT (fT (fT (fT (fT (fT (fT (fT (fT vF 71 f7126) 72 f7226) 73 f7326) 0 g67) 4 f467) 6 f667) 5 f567) 2 f2w67) 3 f3w67) 74 f7467) (fT (fT (fT vG 1 gs67) 7 F67) 8 L867)) H := hP
          have hD : va_D A (WR a k h0 (fT (fT (fT (fT (fT (fT (fT (fT vi 0 0) 119 (nI nd26)) 116 0) 5 cn267) 6 rn267) 7 gn267) 11 0) 118 sh) (fT vj 12 qd67) (fT (fT (fT (fT (fT (fT (fT (fT (fT (fT vF 71 f7126) 72 f7226) 73 f7326) 0 g67) 4 f467) 6 f667) 5 f567) 2 f2w67) 3 f3w67) 74 f7467) (fT (fT (fT vG 1 gs67) 7 F67) 8 L867)) := hD
          revert hw9
          refine fz_a4 ?_
          intro f67_0 f67_1 f67_2 f67_3
          have hl : lv_has _ _ ([(0, .ref h0)]) := lv_sub hl [0] rfl
          exact join2 _ _ _ _ ⟨g67, f2w67, f3w67, f467, f567, f667, f7467, gs67, F67, L867, qd67, 0, cn267, rn267, gn267, m267, f67_0, Or.inl ⟨c_56, f67_1⟩, f67_2, fun q h1 h2 => f67_3 q h1 (by omega) (by omega) (by omega) (by omega) (by omega), rfl, hP, hD, hS, hl⟩
        · have t_56 : (sh).toInt = 0 := toI_nne c_56 rfl (by decide)
          refine lv_aload_n hx hb dX12_prove_59 rfl (lv_at hl 0 rfl) ?_
          have hFc := allFree hD hS hA
          refine va_callv (va_runV (As := []) (rest := []) ⟨hx, hb, hml, hown, hts⟩ (r_X12_best1 l dC dI a k h0 (fT (fT (fT (fT (fT (fT (fT (fT vi 0 0) 119 (nI nd26)) 116 0) 5 cn233) 6 rn233) 7 gn233) 11 0) 118 sh) (fT vj 12 qd33) (fT (fT (fT (fT (fT (fT (fT (fT (fT vF 71 f7126) 72 f7226) 73 f7326) 0 g33) 4 f433) 6 f633) 5 f533) 2 f2w33) 3 f3w33) (fT (fT (fT vG 1 gs33) 7 F33) 8 L833) vn gq m233 f33_0 (by first | with_reducible assumption | decide | omega | rfl | assumption) (by first | with_reducible assumption | decide | omega | rfl | assumption) (by first | with_reducible assumption | decide | omega | rfl | assumption) (⟨(f33_1.2 0 (by omega)).1, (f33_1.2 0 (by omega)).2, fun h9 => (hsh.resolve_right (fun h => by rw [h] at c_56; exact absurd c_56 (by decide))).2.2 0 h9⟩) H.size) (cwV 0 hts gwsRX12_prove_3 rfl rfl rfl hd_yX12_best1_RX12 (by decide +kernel)) (fz_pre (va_recv hK hP (ci := 12) (q0 := 0) rfl rfl) hP hK hD) rfl rfl hl.1 rfl (lv_room (Nat.le_of_ble_eq_true rfl)) dX12_prove_60 (by decide +kernel)) hS (fun q _ h => hFc q h) hFc (fun u t9_ H locs ht hvm hw9 hB9 hz1 hk1 hS => ?_)
          revert u
          refine fz_p5 ?_
          intro g60 f2w60 f3w60 gs60 m260 hw9 hB9
          try dsimp only at hw9 hB9
          have hP : va_P (dC, dI) vwCl (WR a k h0 (fT (fT (fT (fT (fT (fT (fT (fT vi 0 0) 119 (nI nd26)) 116 0) 5 cn233) 6 rn233) 7 gn233) 11 0) 118 sh) (fT vj 12 qd33) (fT (fT (fT (fT (fT (fT (fT (fT (fT (fT (fT (fT vF 71 f7126) 72 f7226) 73 f7326) 0 g33) 4 f433) 6 f633) 5 f533) 2 f2w33) 3 f3w33) 0 g60) 2 f2w60) 3 f3w60) (fT (fT (fT (fT vG 1 gs33) 7 F33) 8 L833) 1 gs60)) H := fz_P ht hB9.1
          have hD : va_D A (WR a k h0 (fT (fT (fT (fT (fT (fT (fT (fT vi 0 0) 119 (nI nd26)) 116 0) 5 cn233) 6 rn233) 7 gn233) 11 0) 118 sh) (fT vj 12 qd33) (fT (fT (fT (fT (fT (fT (fT (fT (fT (fT (fT (fT vF 71 f7126) 72 f7226) 73 f7326) 0 g33) 4 f433) 6 f633) 5 f533) 2 f2w33) 3 f3w33) 0 g60) 2 f2w60) 3 f3w60) (fT (fT (fT (fT vG 1 gs33) 7 F33) 8 L833) 1 gs60)) := hB9.2.weaken (fun _ q _ h => hFc q.1 h)
          have e9 : fT (fT (fT (fT (fT (fT (fT (fT (fT vF 71 f7126) 72 f7226) 73 f7326) 0 g60) 4 f433) 6 f633) 5 f533) 2 f2w60) 3 f3w60 = fT (fT (fT (fT (fT (fT (fT (fT (fT (fT (fT (fT vF 71 f7126) 72 f7226) 73 f7326) 0 g33) 4 f433) 6 f633) 5 f533) 2 f2w33) 3 f3w33) 0 g60) 2 f2w60) 3 f3w60 := ((congrArg (fun g9 => fT (fT g9 2 f2w60) 3 f3w60) ((fT_sw _ _ _ (Nat.ne_of_beq_eq_false rfl)).trans (congrArg (fun g9 => fT g9 3 f3w33) ((fT_sw _ _ _ (Nat.ne_of_beq_eq_false rfl)).trans (congrArg (fun g9 => fT g9 2 f2w33) ((fT_sw _ _ _ (Nat.ne_of_beq_eq_false rfl)).trans (congrArg (fun g9 => fT g9 5 f533) ((fT_sw _ _ _ (Nat.ne_of_beq_eq_false rfl)).trans (congrArg (fun g9 => fT g9 6 f633) ((fT_sw _ _ _ (Nat.ne_of_beq_eq_false rfl)).trans (congrArg (fun g9 => fT g9 4 f433) (fT_sm _ _ _ _)))))))))))).trans ((congrArg (fun g9 => fT g9 3 f3w60) ((fT_sw _ _ _ (Nat.ne_of_beq_eq_false rfl)).trans (congrArg (fun g9 => fT g9 3 f3w33) (fT_sm _ _ _ _)))).trans (fT_sm _ _ _ _))).symm
          rw [← e9] at hP hD
          clear e9
          have e9 : fT (fT (fT vG 1 gs60) 7 F33) 8 L833 = fT (fT (fT (fT vG 1 gs33) 7 F33) 8 L833) 1 gs60 := ((fT_sw _ _ _ (Nat.ne_of_beq_eq_false rfl)).trans (congrArg (fun g9 => fT g9 8 L833) ((fT_sw _ _ _ (Nat.ne_of_beq_eq_false rfl)).trans (congrArg (fun g9 => fT g9 7 F33) (fT_sm _ _ _ _))))).symm
          rw [← e9] at hP hD
          clear e9
          have hP : va_P (dC, dI) vwCl (WR a k h0 (fT (fT (fT (fT (fT (fT (fT (fT vi 0 0) 119 (nI nd26)) 116 0) 5 cn233) 6 rn233) 7 gn233) 11 0) 118 sh) (fT vj 12 qd33) (fT (fT (fT (fT (fT (fT (fT (fT (fT vF 71 f7126) 72 f7226) 73 f7326) 0 g60) 4 f433) 6 f633) 5 f533) 2 f2w60) 3 f3w60) (fT (fT (fT vG 1 gs60) 7 F33) 8 L833)) H := hP
          have hD : va_D A (WR a k h0 (fT (fT (fT (fT (fT (fT (fT (fT vi 0 0) 119 (nI nd26)) 116 0) 5 cn233) 6 rn233) 7 gn233) 11 0) 118 sh) (fT vj 12 qd33) (fT (fT (fT (fT (fT (fT (fT (fT (fT vF 71 f7126) 72 f7226) 73 f7326) 0 g60) 4 f433) 6 f633) 5 f533) 2 f2w60) 3 f3w60) (fT (fT (fT vG 1 gs60) 7 F33) 8 L833)) := hD
          revert hw9
          refine fz_a4 ?_
          intro f60_0 f60_1 f60_2 f60_3
          refine lv_goto (tgt := 70) hx hb dX12_prove_63 (by decide) ?_
          have e9 : fT (fT (fT (fT (fT (fT (fT (fT (fT (fT vF 71 f7126) 72 f7226) 73 f7326) 0 g60) 4 f433) 6 f633) 5 f533) 2 f2w60) 3 f3w60) 74 (vF 74) = fT (fT (fT (fT (fT (fT (fT (fT (fT vF 71 f7126) 72 f7226) 73 f7326) 0 g60) 4 f433) 6 f633) 5 f533) 2 f2w60) 3 f3w60 := by funext q9; by_cases h9_71 : q9 = 71; (subst h9_71; exact ((fT_ne _ _ (Nat.ne_of_beq_eq_false rfl)).trans ((fT_ne _ _ (Nat.ne_of_beq_eq_false rfl)).trans ((fT_ne _ _ (Nat.ne_of_beq_eq_false rfl)).trans ((fT_ne _ _ (Nat.ne_of_beq_eq_false rfl)).trans ((fT_ne _ _ (Nat.ne_of_beq_eq_false rfl)).trans ((fT_ne _ _ (Nat.ne_of_beq_eq_false rfl)).trans ((fT_ne _ _ (Nat.ne_of_beq_eq_false rfl)).trans ((fT_ne _ _ (Nat.ne_of_beq_eq_false rfl)).trans ((fT_ne _ _ (Nat.ne_of_beq_eq_false rfl)).trans (fT_eq _ _ _)))))))))).trans (Eq.trans (by first | with_reducible rfl | with_reducible assumption | (symm; with_reducible assumption) | rfl | assumption | (symm; assumption) | (subst_vars; rfl)) ((fT_ne _ _ (Nat.ne_of_beq_eq_false rfl)).trans ((fT_ne _ _ (Nat.ne_of_beq_eq_false rfl)).trans ((fT_ne _ _ (Nat.ne_of_beq_eq_false rfl)).trans ((fT_ne _ _ (Nat.ne_of_beq_eq_false rfl)).trans ((fT_ne _ _ (Nat.ne_of_beq_eq_false rfl)).trans ((fT_ne _ _ (Nat.ne_of_beq_eq_false rfl)).trans ((fT_ne _ _ (Nat.ne_of_beq_eq_false rfl)).trans ((fT_ne _ _ (Nat.ne_of_beq_eq_false rfl)).trans (fT_eq _ _ _))))))))).symm)); by_cases h9_72 : q9 = 72; (subst h9_72; exact ((fT_ne _ _ (Nat.ne_of_beq_eq_false rfl)).trans ((fT_ne _ _ (Nat.ne_of_beq_eq_false rfl)).trans ((fT_ne _ _ (Nat.ne_of_beq_eq_false rfl)).trans ((fT_ne _ _ (Nat.ne_of_beq_eq_false rfl)).trans ((fT_ne _ _ (Nat.ne_of_beq_eq_false rfl)).trans ((fT_ne _ _ (Nat.ne_of_beq_eq_false rfl)).trans ((fT_ne _ _ (Nat.ne_of_beq_eq_false rfl)).trans ((fT_ne _ _ (Nat.ne_of_beq_eq_false rfl)).trans (fT_eq _ _ _))))))))).trans (Eq.trans (by first | with_reducible rfl | with_reducible assumption | (symm; with_reducible assumption) | rfl | assumption | (symm; assumption) | (subst_vars; rfl)) ((fT_ne _ _ (Nat.ne_of_beq_eq_false rfl)).trans ((fT_ne _ _ (Nat.ne_of_beq_eq_false rfl)).trans ((fT_ne _ _ (Nat.ne_of_beq_eq_false rfl)).trans ((fT_ne _ _ (Nat.ne_of_beq_eq_false rfl)).trans ((fT_ne _ _ (Nat.ne_of_beq_eq_false rfl)).trans ((fT_ne _ _ (Nat.ne_of_beq_eq_false rfl)).trans ((fT_ne _ _ (Nat.ne_of_beq_eq_false rfl)).trans (fT_eq _ _ _)))))))).symm)); by_cases h9_73 : q9 = 73; (subst h9_73; exact ((fT_ne _ _ (Nat.ne_of_beq_eq_false rfl)).trans ((fT_ne _ _ (Nat.ne_of_beq_eq_false rfl)).trans ((fT_ne _ _ (Nat.ne_of_beq_eq_false rfl)).trans ((fT_ne _ _ (Nat.ne_of_beq_eq_false rfl)).trans ((fT_ne _ _ (Nat.ne_of_beq_eq_false rfl)).trans ((fT_ne _ _ (Nat.ne_of_beq_eq_false rfl)).trans ((fT_ne _ _ (Nat.ne_of_beq_eq_false rfl)).trans (fT_eq _ _ _)))))))).trans (Eq.trans (by first | with_reducible rfl | with_reducible assumption | (symm; with_reducible assumption) | rfl | assumption | (symm; assumption) | (subst_vars; rfl)) ((fT_ne _ _ (Nat.ne_of_beq_eq_false rfl)).trans ((fT_ne _ _ (Nat.ne_of_beq_eq_false rfl)).trans ((fT_ne _ _ (Nat.ne_of_beq_eq_false rfl)).trans ((fT_ne _ _ (Nat.ne_of_beq_eq_false rfl)).trans ((fT_ne _ _ (Nat.ne_of_beq_eq_false rfl)).trans ((fT_ne _ _ (Nat.ne_of_beq_eq_false rfl)).trans (fT_eq _ _ _))))))).symm)); by_cases h9_0 : q9 = 0; (subst h9_0; exact ((fT_ne _ _ (Nat.ne_of_beq_eq_false rfl)).trans ((fT_ne _ _ (Nat.ne_of_beq_eq_false rfl)).trans ((fT_ne _ _ (Nat.ne_of_beq_eq_false rfl)).trans ((fT_ne _ _ (Nat.ne_of_beq_eq_false rfl)).trans ((fT_ne _ _ (Nat.ne_of_beq_eq_false rfl)).trans ((fT_ne _ _ (Nat.ne_of_beq_eq_false rfl)).trans (fT_eq _ _ _))))))).trans (Eq.trans (by first | with_reducible rfl | with_reducible assumption | (symm; with_reducible assumption) | rfl | assumption | (symm; assumption) | (subst_vars; rfl)) ((fT_ne _ _ (Nat.ne_of_beq_eq_false rfl)).trans ((fT_ne _ _ (Nat.ne_of_beq_eq_false rfl)).trans ((fT_ne _ _ (Nat.ne_of_beq_eq_false rfl)).trans ((fT_ne _ _ (Nat.ne_of_beq_eq_false rfl)).trans ((fT_ne _ _ (Nat.ne_of_beq_eq_false rfl)).trans (fT_eq _ _ _)))))).symm)); by_cases h9_4 : q9 = 4; (subst h9_4; exact ((fT_ne _ _ (Nat.ne_of_beq_eq_false rfl)).trans ((fT_ne _ _ (Nat.ne_of_beq_eq_false rfl)).trans ((fT_ne _ _ (Nat.ne_of_beq_eq_false rfl)).trans ((fT_ne _ _ (Nat.ne_of_beq_eq_false rfl)).trans ((fT_ne _ _ (Nat.ne_of_beq_eq_false rfl)).trans (fT_eq _ _ _)))))).trans (Eq.trans (by first | with_reducible rfl | with_reducible assumption | (symm; with_reducible assumption) | rfl | assumption | (symm; assumption) | (subst_vars; rfl)) ((fT_ne _ _ (Nat.ne_of_beq_eq_false rfl)).trans ((fT_ne _ _ (Nat.ne_of_beq_eq_false rfl)).trans ((fT_ne _ _ (Nat.ne_of_beq_eq_false rfl)).trans ((fT_ne _ _ (Nat.ne_of_beq_eq_false rfl)).trans (fT_eq _ _ _))))).symm)); by_cases h9_6 : q9 = 6; (subst h9_6; exact ((fT_ne _ _ (Nat.ne_of_beq_eq_false rfl)).trans ((fT_ne _ _ (Nat.ne_of_beq_eq_false rfl)).trans ((fT_ne _ _ (Nat.ne_of_beq_eq_false rfl)).trans ((fT_ne _ _ (Nat.ne_of_beq_eq_false rfl)).trans (fT_eq _ _ _))))).trans (Eq.trans (by first | with_reducible rfl | with_reducible assumption | (symm; with_reducible assumption) | rfl | assumption | (symm; assumption) | (subst_vars; rfl)) ((fT_ne _ _ (Nat.ne_of_beq_eq_false rfl)).trans ((fT_ne _ _ (Nat.ne_of_beq_eq_false rfl)).trans ((fT_ne _ _ (Nat.ne_of_beq_eq_false rfl)).trans (fT_eq _ _ _)))).symm)); by_cases h9_5 : q9 = 5; (subst h9_5; exact ((fT_ne _ _ (Nat.ne_of_beq_eq_false rfl)).trans ((fT_ne _ _ (Nat.ne_of_beq_eq_false rfl)).trans ((fT_ne _ _ (Nat.ne_of_beq_eq_false rfl)).trans (fT_eq _ _ _)))).trans (Eq.trans (by first | with_reducible rfl | with_reducible assumption | (symm; with_reducible assumption) | rfl | assumption | (symm; assumption) | (subst_vars; rfl)) ((fT_ne _ _ (Nat.ne_of_beq_eq_false rfl)).trans ((fT_ne _ _ (Nat.ne_of_beq_eq_false rfl)).trans (fT_eq _ _ _))).symm)); by_cases h9_2 : q9 = 2; (subst h9_2; exact ((fT_ne _ _ (Nat.ne_of_beq_eq_false rfl)).trans ((fT_ne _ _ (Nat.ne_of_beq_eq_false rfl)).trans (fT_eq _ _ _))).trans (Eq.trans (by first | with_reducible rfl | with_reducible assumption | (symm; with_reducible assumption) | rfl | assumption | (symm; assumption) | (subst_vars; rfl)) ((fT_ne _ _ (Nat.ne_of_beq_eq_false rfl)).trans (fT_eq _ _ _)).symm)); by_cases h9_3 : q9 = 3; (subst h9_3; exact ((fT_ne _ _ (Nat.ne_of_beq_eq_false rfl)).trans (fT_eq _ _ _)).trans (Eq.trans (by first | with_reducible rfl | with_reducible assumption | (symm; with_reducible assumption) | rfl | assumption | (symm; assumption) | (subst_vars; rfl)) (fT_eq _ _ _).symm)); by_cases h9_74 : q9 = 74; (subst h9_74; exact (fT_eq _ _ _).trans (Eq.trans (by first | with_reducible rfl | with_reducible assumption | (symm; with_reducible assumption) | rfl | assumption | (symm; assumption) | (subst_vars; rfl)) ((fT_ne _ _ (Nat.ne_of_beq_eq_false rfl)).trans ((fT_ne _ _ (Nat.ne_of_beq_eq_false rfl)).trans ((fT_ne _ _ (Nat.ne_of_beq_eq_false rfl)).trans ((fT_ne _ _ (Nat.ne_of_beq_eq_false rfl)).trans ((fT_ne _ _ (Nat.ne_of_beq_eq_false rfl)).trans ((fT_ne _ _ (Nat.ne_of_beq_eq_false rfl)).trans ((fT_ne _ _ (Nat.ne_of_beq_eq_false rfl)).trans ((fT_ne _ _ (Nat.ne_of_beq_eq_false rfl)).trans (fT_ne _ _ (Nat.ne_of_beq_eq_false rfl)))))))))).symm)); exact ((fT_ne _ _ h9_74).trans ((fT_ne _ _ h9_3).trans ((fT_ne _ _ h9_2).trans ((fT_ne _ _ h9_5).trans ((fT_ne _ _ h9_6).trans ((fT_ne _ _ h9_4).trans ((fT_ne _ _ h9_0).trans ((fT_ne _ _ h9_73).trans ((fT_ne _ _ h9_72).trans (fT_ne _ _ h9_71)))))))))).trans ((fT_ne _ _ h9_3).trans ((fT_ne _ _ h9_2).trans ((fT_ne _ _ h9_5).trans ((fT_ne _ _ h9_6).trans ((fT_ne _ _ h9_4).trans ((fT_ne _ _ h9_0).trans ((fT_ne _ _ h9_73).trans ((fT_ne _ _ h9_72).trans (fT_ne _ _ h9_71))))))))).symm
          have hP : va_P (dC, dI) vwCl (WR a k h0 (fT (fT (fT (fT (fT (fT (fT (fT vi 0 0) 119 (nI nd26)) 116 0) 5 cn233) 6 rn233) 7 gn233) 11 0) 118 sh) (fT vj 12 qd33) (fT (fT (fT (fT (fT (fT (fT (fT (fT (fT vF 71 f7126) 72 f7226) 73 f7326) 0 g60) 4 f433) 6 f633) 5 f533) 2 f2w60) 3 f3w60) 74 (vF 74)) (fT (fT (fT vG 1 gs60) 7 F33) 8 L833)) H := by rw [e9]; exact hP
          have hD : va_D A (WR a k h0 (fT (fT (fT (fT (fT (fT (fT (fT vi 0 0) 119 (nI nd26)) 116 0) 5 cn233) 6 rn233) 7 gn233) 11 0) 118 sh) (fT vj 12 qd33) (fT (fT (fT (fT (fT (fT (fT (fT (fT (fT vF 71 f7126) 72 f7226) 73 f7326) 0 g60) 4 f433) 6 f633) 5 f533) 2 f2w60) 3 f3w60) 74 (vF 74)) (fT (fT (fT vG 1 gs60) 7 F33) 8 L833)) := by rw [e9]; exact hD
          clear e9
          have hl : lv_has _ _ ([(0, .ref h0)]) := lv_sub hl [0] rfl
          exact join2 _ _ _ _ ⟨g60, f2w60, f3w60, f433, f533, f633, (vF 74), gs60, F33, L833, qd33, 0, cn233, rn233, gn233, m260, f60_0, Or.inr f60_1, f60_2, fun q h1 h2 => f60_3 q h1 (by omega) (by omega) (by omega) (by omega), rfl, hP, hD, hS, hl⟩
      · rintro H locs ls stk ⟨gp, f2wp, f3wp, f4p, f5p, f6p, f74p, gsp, Fp, L8p, qdp, qkp, cn2p, rn2p, gn2p, mP, hBP, hPP, h51P, hoP, rfl, hP, hD, hS, hl⟩
        have hz28 : nd26 ≤ 28 := by have h1 := f26_0.1; have h2 := f26_0.2.2.1; omega
        refine lv_aload_n hx hb dX12_prove_70 rfl (lv_at hl 0 rfl) ?_
        refine va_get (D := (dC, dI)) (ci := 12) (v := .int (nI nd26)) (C := RX12) (T := TX12) (N := 163) (fs := fM (vS a (fT (fT (fT (fT (fT (fT (fT (fT vi 0 0) 119 (nI nd26)) 116 0) 5 cn2p) 6 rn2p) 7 gn2p) 11 qkp) 118 sh) (fT vj 12 qdp))) hx hb hts iwsRX12_prove_in12 hown hK hP 0 rfl rfl 119 (by decide) (hts (.fieldLink RX12 894 "OptimaWorksModel" "needs" "I") (by decide +kernel)) (fun _ h9 => h9) rfl dX12_prove_71 ?_
        refine lv_iconst (v := 1) hx hb dX12_prove_74 (by decide) ?_
        refine lv_isub hx hb dX12_prove_75 ?_
        refine lv_istore_n hx hb dX12_prove_76 rfl hl (by decide) rfl (fun ls (hl : lv_has ls _ ([(1, .int ((nI nd26) - 1)), (0, .ref h0)])) => ?_)
        have hl : lv_has _ _ ([(0, .ref h0), (1, .int ((nI nd26) - 1))]) := lv_sub hl [1, 0] rfl
        refine (fun (loop : ∀ (n9 : Nat) (kq : Int32) (kk1 : Nat) (f73x : Nat → Int32) (gx : Nat → Int32) (f2wx : Nat → Int32) (f3wx : Nat → Int32) (f4x : Nat → Int32) (f5x : Nat → Int32) (f6x : Nat → Int32) (f74x : Nat → Int32) (gsx : Nat → Int64) (Fx : Nat → Int64) (L8x : Nat → Int64) (qdx : Int64) (qkx : Int32) (cn2x : Int32) (rn2x : Int32) (gn2x : Int32) (m5 : Nat → Int) (H : Heap) (locs : List Loc) (ls : Array Slot), (Bg gx m5) → ((kq).toInt = (kk1 : Int) - 1) → (kk1 ≤ nd26) → ((sh ≠ 0 ∧ Sz 294 (m5 1046) ∧ Sz 258 (m5 1047)) ∨ (Sz 224 (m5 1046) ∧ Sz 201 (m5 1047))) → (0 < m5 1051) → (∀ q, 1000 ≤ q → q < 1045 → m5 q = m233 q) →  (kk1 < n9) → va_P (dC, dI) vwCl (WR a k h0 (fT (fT (fT (fT (fT (fT (fT (fT vi 0 0) 119 (nI nd26)) 116 0) 5 cn2x) 6 rn2x) 7 gn2x) 11 qkx) 118 sh) (fT vj 12 qdx) (fT (fT (fT (fT (fT (fT (fT (fT (fT (fT vF 71 f7126) 72 f7226) 73 f73x) 0 gx) 4 f4x) 6 f6x) 5 f5x) 2 f2wx) 3 f3wx) 74 f74x) (fT (fT (fT vG 1 gsx) 7 Fx) 8 L8x)) H → va_D A (WR a k h0 (fT (fT (fT (fT (fT (fT (fT (fT vi 0 0) 119 (nI nd26)) 116 0) 5 cn2x) 6 rn2x) 7 gn2x) 11 qkx) 118 sh) (fT vj 12 qdx) (fT (fT (fT (fT (fT (fT (fT (fT (fT (fT vF 71 f7126) 72 f7226) 73 f73x) 0 gx) 4 f4x) 6 f6x) 5 f5x) 2 f2wx) 3 f3wx) 74 f74x) (fT (fT (fT vG 1 gsx) 7 Fx) 8 L8x)) → va_S A s.heap H locs → lv_has ls 3 [(0, .ref h0), (1, .int kq)] → W p l e _ s m _ below meth c H locs 0 0 _ (F0 m 77 ls [])) => loop (nd26 + 1) ((nI nd26) - 1) nd26 f7326 gp f2wp f3wp f4p f5p f6p f74p gsp Fp L8p qdp qkp cn2p rn2p gn2p mP _ _ _ (hBP) (by exact pk_sub_toInt (a := nd26) (b := 1) (by omega) (by omega)) (by omega) (hPP) (h51P) (hoP) (by omega) hP hD hS hl) ?_
        intro n9
        induction n9 with
        | zero => intro kq kk1 f73x gx f2wx f3wx f4x f5x f6x f74x gsx Fx L8x qdx qkx cn2x rn2x gn2x m5 H locs ls hB5 hkq hkn hPP5 h515 ho5 hf9; exact False.elim (by omega)
        | succ n9 ih77 =>
          intro kq kk1 f73x gx f2wx f3wx f4x f5x f6x f74x gsx Fx L8x qdx qkx cn2x rn2x gn2x m5 H locs ls hB5 hkq hkn hPP5 h515 ho5 hf77 hP hD hS hl
          refine lv_iload_n hx hb dX12_prove_77 rfl (lv_at hl 1 rfl) ?_
          refine lv_if_lt (tgt := 108) hx hb dX12_prove_78 (by decide) (fun c_78 => ?_) (fun c_78 => ?_)
          · have t_78 : (kq).toInt < 0 := toI_lt c_78 rfl (by decide)
            refine lv_aload_n hx hb dX12_prove_108 rfl (lv_at hl 0 rfl) ?_
            have hFc := allFree hD hS hA
            refine va_calli (va_runV (As := []) (rest := []) ⟨hx, hb, hml, hown, hts⟩ (r_X12_addsUp l dC dI a k h0 (fT (fT (fT (fT (fT (fT (fT (fT vi 0 0) 119 (nI nd26)) 116 0) 5 cn2x) 6 rn2x) 7 gn2x) 11 qkx) 118 sh) (fT vj 12 qdx) (fT (fT (fT (fT (fT (fT (fT (fT (fT (fT vF 71 f7126) 72 f7226) 73 f73x) 0 gx) 4 f4x) 6 f6x) 5 f5x) 2 f2wx) 3 f3wx) 74 f74x) (fT (fT (fT vG 1 gsx) 7 Fx) 8 L8x) vn mr gq z26 nd26 m5 hB5 (by first | with_reducible assumption | decide | omega | rfl | assumption) (by first | with_reducible assumption | decide | omega | rfl | assumption) (by first | with_reducible assumption | decide | omega | rfl | assumption) (by first | with_reducible assumption | decide | omega | rfl | assumption) (by first | with_reducible assumption | decide | omega | rfl | assumption) (by first | with_reducible assumption | decide | omega | rfl | assumption) (rfl) (f26_0) H.size) (cwV 0 hts gwsRX12_prove_4 rfl rfl rfl hd_yX12_addsUp_RX12 (by decide +kernel)) (fz_pre (va_recv hK hP (ci := 12) (q0 := 0) rfl rfl) hP hK hD) rfl rfl hl.1 rfl (lv_room (Nat.le_of_ble_eq_true rfl)) dX12_prove_109 (by decide +kernel)) hS (fun q _ h => hFc q h) hFc (fun r109 u t9_ H locs ht hvm hw9 hB9 hz1 hk1 hS => ?_)
            revert u
            refine fz_p16 ?_
            intro g109 f2w109 f3w109 f4109 f5109 f6109 f74109 gs109 F109 L8109 qd109 C109 R109 t2109 D2109 m2109 hw9 hB9
            try dsimp only at hw9 hB9
            have hP : va_P (dC, dI) vwCl (WR a k h0 (fT (fT (fT (fT (fT (fT (fT (fT (fT (fT (fT (fT vi 0 0) 119 (nI nd26)) 116 0) 5 cn2x) 6 rn2x) 7 gn2x) 11 qkx) 118 sh) 5 (nI C109)) 6 (nI R109)) 7 (nI 2)) 11 0) (fT (fT vj 12 qdx) 12 qd109) (fT (fT (fT (fT (fT (fT (fT (fT (fT (fT (fT (fT (fT (fT (fT (fT (fT vF 71 f7126) 72 f7226) 73 f73x) 0 gx) 4 f4x) 6 f6x) 5 f5x) 2 f2wx) 3 f3wx) 74 f74x) 74 f74109) 0 g109) 4 f4109) 6 f6109) 2 f2w109) 3 f3w109) 5 f5109) (fT (fT (fT (fT (fT (fT vG 1 gsx) 7 Fx) 8 L8x) 1 gs109) 7 F109) 8 L8109)) H := fz_P ht hB9.1
            have hD : va_D A (WR a k h0 (fT (fT (fT (fT (fT (fT (fT (fT (fT (fT (fT (fT vi 0 0) 119 (nI nd26)) 116 0) 5 cn2x) 6 rn2x) 7 gn2x) 11 qkx) 118 sh) 5 (nI C109)) 6 (nI R109)) 7 (nI 2)) 11 0) (fT (fT vj 12 qdx) 12 qd109) (fT (fT (fT (fT (fT (fT (fT (fT (fT (fT (fT (fT (fT (fT (fT (fT (fT vF 71 f7126) 72 f7226) 73 f73x) 0 gx) 4 f4x) 6 f6x) 5 f5x) 2 f2wx) 3 f3wx) 74 f74x) 74 f74109) 0 g109) 4 f4109) 6 f6109) 2 f2w109) 3 f3w109) 5 f5109) (fT (fT (fT (fT (fT (fT vG 1 gsx) 7 Fx) 8 L8x) 1 gs109) 7 F109) 8 L8109)) := hB9.2.weaken (fun _ q _ h => hFc q.1 h)
            have e9 : fT (fT (fT (fT (fT (fT (fT (fT vi 0 0) 119 (nI nd26)) 116 0) 5 (nI C109)) 6 (nI R109)) 7 (nI 2)) 11 0) 118 sh = fT (fT (fT (fT (fT (fT (fT (fT (fT (fT (fT (fT vi 0 0) 119 (nI nd26)) 116 0) 5 cn2x) 6 rn2x) 7 gn2x) 11 qkx) 118 sh) 5 (nI C109)) 6 (nI R109)) 7 (nI 2)) 11 0 := ((congrArg (fun g9 => fT (fT (fT g9 6 (nI R109)) 7 (nI 2)) 11 0) ((fT_sw _ _ _ (Nat.ne_of_beq_eq_false rfl)).trans (congrArg (fun g9 => fT g9 118 sh) ((fT_sw _ _ _ (Nat.ne_of_beq_eq_false rfl)).trans (congrArg (fun g9 => fT g9 11 qkx) ((fT_sw _ _ _ (Nat.ne_of_beq_eq_false rfl)).trans (congrArg (fun g9 => fT g9 7 gn2x) ((fT_sw _ _ _ (Nat.ne_of_beq_eq_false rfl)).trans (congrArg (fun g9 => fT g9 6 rn2x) (fT_sm _ _ _ _)))))))))).trans ((congrArg (fun g9 => fT (fT g9 7 (nI 2)) 11 0) ((fT_sw _ _ _ (Nat.ne_of_beq_eq_false rfl)).trans (congrArg (fun g9 => fT g9 118 sh) ((fT_sw _ _ _ (Nat.ne_of_beq_eq_false rfl)).trans (congrArg (fun g9 => fT g9 11 qkx) ((fT_sw _ _ _ (Nat.ne_of_beq_eq_false rfl)).trans (congrArg (fun g9 => fT g9 7 gn2x) (fT_sm _ _ _ _)))))))).trans ((congrArg (fun g9 => fT g9 11 0) ((fT_sw _ _ _ (Nat.ne_of_beq_eq_false rfl)).trans (congrArg (fun g9 => fT g9 118 sh) ((fT_sw _ _ _ (Nat.ne_of_beq_eq_false rfl)).trans (congrArg (fun g9 => fT g9 11 qkx) (fT_sm _ _ _ _)))))).trans ((fT_sw _ _ _ (Nat.ne_of_beq_eq_false rfl)).trans (congrArg (fun g9 => fT g9 118 sh) (fT_sm _ _ _ _)))))).symm
            rw [← e9] at hP hD
            clear e9
            have e9 : fT vj 12 qd109 = fT (fT vj 12 qdx) 12 qd109 := (fT_sm _ _ _ _).symm
            rw [← e9] at hP hD
            clear e9
            have e9 : fT (fT (fT (fT (fT (fT (fT (fT (fT (fT vF 71 f7126) 72 f7226) 73 f73x) 0 g109) 4 f4109) 6 f6109) 5 f5109) 2 f2w109) 3 f3w109) 74 f74109 = fT (fT (fT (fT (fT (fT (fT (fT (fT (fT (fT (fT (fT (fT (fT (fT (fT vF 71 f7126) 72 f7226) 73 f73x) 0 gx) 4 f4x) 6 f6x) 5 f5x) 2 f2wx) 3 f3wx) 74 f74x) 74 f74109) 0 g109) 4 f4109) 6 f6109) 2 f2w109) 3 f3w109) 5 f5109 := ((congrArg (fun g9 => fT (fT (fT (fT (fT (fT g9 0 g109) 4 f4109) 6 f6109) 2 f2w109) 3 f3w109) 5 f5109) (fT_sm _ _ _ _)).trans ((congrArg (fun g9 => fT (fT (fT (fT (fT g9 4 f4109) 6 f6109) 2 f2w109) 3 f3w109) 5 f5109) ((fT_sw _ _ _ (Nat.ne_of_beq_eq_false rfl)).trans (congrArg (fun g9 => fT g9 74 f74109) ((fT_sw _ _ _ (Nat.ne_of_beq_eq_false rfl)).trans (congrArg (fun g9 => fT g9 3 f3wx) ((fT_sw _ _ _ (Nat.ne_of_beq_eq_false rfl)).trans (congrArg (fun g9 => fT g9 2 f2wx) ((fT_sw _ _ _ (Nat.ne_of_beq_eq_false rfl)).trans (congrArg (fun g9 => fT g9 5 f5x) ((fT_sw _ _ _ (Nat.ne_of_beq_eq_false rfl)).trans (congrArg (fun g9 => fT g9 6 f6x) ((fT_sw _ _ _ (Nat.ne_of_beq_eq_false rfl)).trans (congrArg (fun g9 => fT g9 4 f4x) (fT_sm _ _ _ _)))))))))))))).trans ((congrArg (fun g9 => fT (fT (fT (fT g9 6 f6109) 2 f2w109) 3 f3w109) 5 f5109) ((fT_sw _ _ _ (Nat.ne_of_beq_eq_false rfl)).trans (congrArg (fun g9 => fT g9 74 f74109) ((fT_sw _ _ _ (Nat.ne_of_beq_eq_false rfl)).trans (congrArg (fun g9 => fT g9 3 f3wx) ((fT_sw _ _ _ (Nat.ne_of_beq_eq_false rfl)).trans (congrArg (fun g9 => fT g9 2 f2wx) ((fT_sw _ _ _ (Nat.ne_of_beq_eq_false rfl)).trans (congrArg (fun g9 => fT g9 5 f5x) ((fT_sw _ _ _ (Nat.ne_of_beq_eq_false rfl)).trans (congrArg (fun g9 => fT g9 6 f6x) (fT_sm _ _ _ _)))))))))))).trans ((congrArg (fun g9 => fT (fT (fT g9 2 f2w109) 3 f3w109) 5 f5109) ((fT_sw _ _ _ (Nat.ne_of_beq_eq_false rfl)).trans (congrArg (fun g9 => fT g9 74 f74109) ((fT_sw _ _ _ (Nat.ne_of_beq_eq_false rfl)).trans (congrArg (fun g9 => fT g9 3 f3wx) ((fT_sw _ _ _ (Nat.ne_of_beq_eq_false rfl)).trans (congrArg (fun g9 => fT g9 2 f2wx) ((fT_sw _ _ _ (Nat.ne_of_beq_eq_false rfl)).trans (congrArg (fun g9 => fT g9 5 f5x) (fT_sm _ _ _ _)))))))))).trans ((congrArg (fun g9 => fT (fT g9 3 f3w109) 5 f5109) ((fT_sw _ _ _ (Nat.ne_of_beq_eq_false rfl)).trans (congrArg (fun g9 => fT g9 74 f74109) ((fT_sw _ _ _ (Nat.ne_of_beq_eq_false rfl)).trans (congrArg (fun g9 => fT g9 3 f3wx) (fT_sm _ _ _ _)))))).trans ((congrArg (fun g9 => fT g9 5 f5109) ((fT_sw _ _ _ (Nat.ne_of_beq_eq_false rfl)).trans (congrArg (fun g9 => fT g9 74 f74109) (fT_sm _ _ _ _)))).trans ((fT_sw _ _ _ (Nat.ne_of_beq_eq_false rfl)).trans (congrArg (fun g9 => fT g9 74 f74109) ((fT_sw _ _ _ (Nat.ne_of_beq_eq_false rfl)).trans (congrArg (fun g9 => fT g9 3 f3w109) ((fT_sw _ _ _ (Nat.ne_of_beq_eq_false rfl)).trans (congrArg (fun g9 => fT g9 2 f2w109) (fT_sm _ _ _ _))))))))))))).symm
            rw [← e9] at hP hD
            clear e9
            have e9 : fT (fT (fT vG 1 gs109) 7 F109) 8 L8109 = fT (fT (fT (fT (fT (fT vG 1 gsx) 7 Fx) 8 L8x) 1 gs109) 7 F109) 8 L8109 := ((congrArg (fun g9 => fT (fT g9 7 F109) 8 L8109) ((fT_sw _ _ _ (Nat.ne_of_beq_eq_false rfl)).trans (congrArg (fun g9 => fT g9 8 L8x) ((fT_sw _ _ _ (Nat.ne_of_beq_eq_false rfl)).trans (congrArg (fun g9 => fT g9 7 Fx) (fT_sm _ _ _ _)))))).trans ((congrArg (fun g9 => fT g9 8 L8109) ((fT_sw _ _ _ (Nat.ne_of_beq_eq_false rfl)).trans (congrArg (fun g9 => fT g9 8 L8x) (fT_sm _ _ _ _)))).trans (fT_sm _ _ _ _))).symm
            rw [← e9] at hP hD
            clear e9
            have hP : va_P (dC, dI) vwCl (WR a k h0 (fT (fT (fT (fT (fT (fT (fT (fT vi 0 0) 119 (nI nd26)) 116 0) 5 (nI C109)) 6 (nI R109)) 7 (nI 2)) 11 0) 118 sh) (fT vj 12 qd109) (fT (fT (fT (fT (fT (fT (fT (fT (fT (fT vF 71 f7126) 72 f7226) 73 f73x) 0 g109) 4 f4109) 6 f6109) 5 f5109) 2 f2w109) 3 f3w109) 74 f74109) (fT (fT (fT vG 1 gs109) 7 F109) 8 L8109)) H := hP
            have hD : va_D A (WR a k h0 (fT (fT (fT (fT (fT (fT (fT (fT vi 0 0) 119 (nI nd26)) 116 0) 5 (nI C109)) 6 (nI R109)) 7 (nI 2)) 11 0) 118 sh) (fT vj 12 qd109) (fT (fT (fT (fT (fT (fT (fT (fT (fT (fT vF 71 f7126) 72 f7226) 73 f73x) 0 g109) 4 f4109) 6 f6109) 5 f5109) 2 f2w109) 3 f3w109) 74 f74109) (fT (fT (fT vG 1 gs109) 7 F109) 8 L8109)) := hD
            revert hw9
            refine fz_a9 ?_
            intro f109_0 f109_1 f109_2 f109_3 f109_4 f109_5 f109_6 f109_7 f109_8
            have f109_6 : 0 < m2109 1045 ∧ Sz 67 (m2109 1045) ∧ (sh ≠ 0 → m2109 1045 = 1) := f109_6
            refine lv_pop hx hb dX12_prove_112 rfl ?_
            refine lv_aload_n hx hb dX12_prove_113 rfl (lv_at hl 0 rfl) ?_
            have hFc := allFree hD hS hA
            refine va_callv (va_runV (As := []) (rest := []) ⟨hx, hb, hml, hown, hts⟩ (r_X12_multipliers l dC dI a k h0 (fT (fT (fT (fT (fT (fT (fT (fT vi 0 0) 119 (nI nd26)) 116 0) 5 (nI C109)) 6 (nI R109)) 7 (nI 2)) 11 0) 118 sh) (fT vj 12 qd109) (fT (fT (fT (fT (fT (fT (fT (fT (fT (fT vF 71 f7126) 72 f7226) 73 f73x) 0 g109) 4 f4109) 6 f6109) 5 f5109) 2 f2w109) 3 f3w109) 74 f74109) (fT (fT (fT vG 1 gs109) 7 F109) 8 L8109) C109 R109 2 t2109 D2109 vn mr z26 nd26 m2109 f109_0 (by first | with_reducible assumption | decide | omega | rfl | assumption) (by first | with_reducible assumption | decide | omega | rfl | assumption) (rfl) (by first | with_reducible assumption | decide | omega | rfl | assumption) (by first | with_reducible assumption | decide | omega | rfl | assumption) (by (have h9 : (R109 + 2) * (C109 + 1) ≤ 20 * 42 := Nat.mul_le_mul (by omega) (by omega)); omega) (f109_1) (f109_3) (f109_2) (⟨f109_6.1, f109_6.2.1⟩) (by first | with_reducible assumption | decide | omega | rfl | assumption) (by first | with_reducible assumption | decide | omega | rfl | assumption) (rfl) (f26_0) H.size) (cwV 0 hts gwsRX12_prove_5 rfl rfl rfl hd_yX12_multipliers_RX12 (by decide +kernel)) (fz_pre (va_recv hK hP (ci := 12) (q0 := 0) rfl rfl) hP hK hD) rfl rfl hl.1 rfl (lv_room (Nat.le_of_ble_eq_true rfl)) dX12_prove_114 (by decide +kernel)) hS (fun q _ h => hFc q h) hFc (fun u t9_ H locs ht hvm hw9 hB9 hz1 hk1 hS => ?_)
            revert u
            refine fz_p3 ?_
            intro g114 gs114 m2114 hw9 hB9
            try dsimp only at hw9 hB9
            have hP : va_P (dC, dI) vwCl (WR a k h0 (fT (fT (fT (fT (fT (fT (fT (fT vi 0 0) 119 (nI nd26)) 116 0) 5 (nI C109)) 6 (nI R109)) 7 (nI 2)) 11 0) 118 sh) (fT vj 12 qd109) (fT (fT (fT (fT (fT (fT (fT (fT (fT (fT (fT vF 71 f7126) 72 f7226) 73 f73x) 0 g109) 4 f4109) 6 f6109) 5 f5109) 2 f2w109) 3 f3w109) 74 f74109) 0 g114) (fT (fT (fT (fT vG 1 gs109) 7 F109) 8 L8109) 1 gs114)) H := fz_P ht hB9.1
            have hD : va_D A (WR a k h0 (fT (fT (fT (fT (fT (fT (fT (fT vi 0 0) 119 (nI nd26)) 116 0) 5 (nI C109)) 6 (nI R109)) 7 (nI 2)) 11 0) 118 sh) (fT vj 12 qd109) (fT (fT (fT (fT (fT (fT (fT (fT (fT (fT (fT vF 71 f7126) 72 f7226) 73 f73x) 0 g109) 4 f4109) 6 f6109) 5 f5109) 2 f2w109) 3 f3w109) 74 f74109) 0 g114) (fT (fT (fT (fT vG 1 gs109) 7 F109) 8 L8109) 1 gs114)) := hB9.2.weaken (fun _ q _ h => hFc q.1 h)
            have e9 : fT (fT (fT (fT (fT (fT (fT (fT (fT (fT vF 71 f7126) 72 f7226) 73 f73x) 0 g114) 4 f4109) 6 f6109) 5 f5109) 2 f2w109) 3 f3w109) 74 f74109 = fT (fT (fT (fT (fT (fT (fT (fT (fT (fT (fT vF 71 f7126) 72 f7226) 73 f73x) 0 g109) 4 f4109) 6 f6109) 5 f5109) 2 f2w109) 3 f3w109) 74 f74109) 0 g114 := ((fT_sw _ _ _ (Nat.ne_of_beq_eq_false rfl)).trans (congrArg (fun g9 => fT g9 74 f74109) ((fT_sw _ _ _ (Nat.ne_of_beq_eq_false rfl)).trans (congrArg (fun g9 => fT g9 3 f3w109) ((fT_sw _ _ _ (Nat.ne_of_beq_eq_false rfl)).trans (congrArg (fun g9 => fT g9 2 f2w109) ((fT_sw _ _ _ (Nat.ne_of_beq_eq_false rfl)).trans (congrArg (fun g9 => fT g9 5 f5109) ((fT_sw _ _ _ (Nat.ne_of_beq_eq_false rfl)).trans (congrArg (fun g9 => fT g9 6 f6109) ((fT_sw _ _ _ (Nat.ne_of_beq_eq_false rfl)).trans (congrArg (fun g9 => fT g9 4 f4109) (fT_sm _ _ _ _))))))))))))).symm
            rw [← e9] at hP hD
            clear e9
            have e9 : fT (fT (fT vG 1 gs114) 7 F109) 8 L8109 = fT (fT (fT (fT vG 1 gs109) 7 F109) 8 L8109) 1 gs114 := ((fT_sw _ _ _ (Nat.ne_of_beq_eq_false rfl)).trans (congrArg (fun g9 => fT g9 8 L8109) ((fT_sw _ _ _ (Nat.ne_of_beq_eq_false rfl)).trans (congrArg (fun g9 => fT g9 7 F109) (fT_sm _ _ _ _))))).symm
            rw [← e9] at hP hD
            clear e9
            have hP : va_P (dC, dI) vwCl (WR a k h0 (fT (fT (fT (fT (fT (fT (fT (fT vi 0 0) 119 (nI nd26)) 116 0) 5 (nI C109)) 6 (nI R109)) 7 (nI 2)) 11 0) 118 sh) (fT vj 12 qd109) (fT (fT (fT (fT (fT (fT (fT (fT (fT (fT vF 71 f7126) 72 f7226) 73 f73x) 0 g114) 4 f4109) 6 f6109) 5 f5109) 2 f2w109) 3 f3w109) 74 f74109) (fT (fT (fT vG 1 gs114) 7 F109) 8 L8109)) H := hP
            have hD : va_D A (WR a k h0 (fT (fT (fT (fT (fT (fT (fT (fT vi 0 0) 119 (nI nd26)) 116 0) 5 (nI C109)) 6 (nI R109)) 7 (nI 2)) 11 0) 118 sh) (fT vj 12 qd109) (fT (fT (fT (fT (fT (fT (fT (fT (fT (fT vF 71 f7126) 72 f7226) 73 f73x) 0 g114) 4 f4109) 6 f6109) 5 f5109) 2 f2w109) 3 f3w109) 74 f74109) (fT (fT (fT vG 1 gs114) 7 F109) 8 L8109)) := hD
            revert hw9
            refine fz_a3 ?_
            intro f114_0 f114_1 f114_2
            refine lv_aload_n hx hb dX12_prove_117 rfl (lv_at hl 0 rfl) ?_
            refine lv_iconst (v := 1) hx hb dX12_prove_118 (by decide) ?_
            refine va_put (D := (dC, dI)) (ci := 12) (v := .int 1) (ty := .boolean) (C := RX12) (T := TX12) (N := 163) (fs := fM (vS a (fT (fT (fT (fT (fT (fT (fT (fT vi 0 0) 119 (nI nd26)) 116 0) 5 (nI C109)) 6 (nI R109)) 7 (nI 2)) 11 0) 118 sh) (fT vj 12 qd109))) hx hb hts iwsRX12_prove_in12 tyX12 tyX12_ok nmX12 hown hK hP hD hS 0 rfl rfl 117 (by decide) (hts (.fieldLink RX12 814 "OptimaWorksModel" "hasProof" "Z") (by decide +kernel)) (fun _ h9 => h9) rfl (by decide +kernel) rfl rfl (Nat.le_of_ble_eq_true rfl) dX12_prove_119 (fun H locs hP hD hS => ?_)
            have hP : va_P (dC, dI) vwCl (WR a k h0 (fT (fT (fT (fT (fT (fT (fT (fT (fT vi 0 0) 119 (nI nd26)) 116 0) 5 (nI C109)) 6 (nI R109)) 7 (nI 2)) 11 0) 118 sh) 117 1) (fT vj 12 qd109) (fT (fT (fT (fT (fT (fT (fT (fT (fT (fT vF 71 f7126) 72 f7226) 73 f73x) 0 g114) 4 f4109) 6 f6109) 5 f5109) 2 f2w109) 3 f3w109) 74 f74109) (fT (fT (fT vG 1 gs114) 7 F109) 8 L8109)) H := by rw [← WR_i 117 _ rfl]; exact hP
            have hD : va_D A (WR a k h0 (fT (fT (fT (fT (fT (fT (fT (fT (fT vi 0 0) 119 (nI nd26)) 116 0) 5 (nI C109)) 6 (nI R109)) 7 (nI 2)) 11 0) 118 sh) 117 1) (fT vj 12 qd109) (fT (fT (fT (fT (fT (fT (fT (fT (fT (fT vF 71 f7126) 72 f7226) 73 f73x) 0 g114) 4 f4109) 6 f6109) 5 f5109) 2 f2w109) 3 f3w109) 74 f74109) (fT (fT (fT vG 1 gs114) 7 F109) 8 L8109)) := by rw [← WR_i 117 _ rfl]; exact hD
            refine lv_iconst (v := 0) hx hb dX12_prove_122 (by decide) ?_
            refine lv_istore_n hx hb dX12_prove_123 rfl hl (by decide) rfl (fun ls (hl : lv_has ls _ ([(1, .int 0), (0, .ref h0)])) => ?_)
            refine lv_iconst (v := 0) hx hb dX12_prove_124 (by decide) ?_
            refine lv_istore_n hx hb dX12_prove_125 rfl hl (by decide) rfl (fun ls (hl : lv_has ls _ ([(2, .int 0), (1, .int 0), (0, .ref h0)])) => ?_)
            have hl : lv_has _ _ ([(0, .ref h0), (1, .int 0), (2, .int (nI 0))]) := lv_sub hl [2, 1, 0] rfl
            refine (fun (loop : ∀ (n9 : Nat) (i6 : Nat) (nq : Int32) (H : Heap) (locs : List Loc) (ls : Array Slot), (i6 ≤ nd26) →  (nd26 < i6 + n9) → va_P (dC, dI) vwCl (WR a k h0 (fT (fT (fT (fT (fT (fT (fT (fT (fT vi 0 0) 119 (nI nd26)) 116 0) 5 (nI C109)) 6 (nI R109)) 7 (nI 2)) 11 0) 118 sh) 117 1) (fT vj 12 qd109) (fT (fT (fT (fT (fT (fT (fT (fT (fT (fT vF 71 f7126) 72 f7226) 73 f73x) 0 g114) 4 f4109) 6 f6109) 5 f5109) 2 f2w109) 3 f3w109) 74 f74109) (fT (fT (fT vG 1 gs114) 7 F109) 8 L8109)) H → va_D A (WR a k h0 (fT (fT (fT (fT (fT (fT (fT (fT (fT vi 0 0) 119 (nI nd26)) 116 0) 5 (nI C109)) 6 (nI R109)) 7 (nI 2)) 11 0) 118 sh) 117 1) (fT vj 12 qd109) (fT (fT (fT (fT (fT (fT (fT (fT (fT (fT vF 71 f7126) 72 f7226) 73 f73x) 0 g114) 4 f4109) 6 f6109) 5 f5109) 2 f2w109) 3 f3w109) 74 f74109) (fT (fT (fT vG 1 gs114) 7 F109) 8 L8109)) → va_S A s.heap H locs → lv_has ls 3 [(0, .ref h0), (1, .int nq), (2, .int (nI i6))] → W p l e _ s m _ below meth c H locs 0 0 _ (F0 m 126 ls [])) => loop (nd26 + 1) 0 0 _ _ _ (by omega) (by omega) hP hD hS hl) ?_
            intro n9
            induction n9 with
            | zero => intro i6 nq H locs ls hi6 hf9; exact False.elim (by omega)
            | succ n9 ih126_1 =>
              intro i6 nq H locs ls hi6 hf126_1 hP hD hS hl
              refine lv_iload_n hx hb dX12_prove_126 rfl (lv_at hl 2 rfl) ?_
              refine lv_aload_n hx hb dX12_prove_127 rfl (lv_at hl 0 rfl) ?_
              refine va_get (D := (dC, dI)) (ci := 12) (v := .int (nI nd26)) (C := RX12) (T := TX12) (N := 163) (fs := fM (vS a (fT (fT (fT (fT (fT (fT (fT (fT (fT vi 0 0) 119 (nI nd26)) 116 0) 5 (nI C109)) 6 (nI R109)) 7 (nI 2)) 11 0) 118 sh) 117 1) (fT vj 12 qd109))) hx hb hts iwsRX12_prove_in12 hown hK hP 0 rfl rfl 119 (by decide) (hts (.fieldLink RX12 894 "OptimaWorksModel" "needs" "I") (by decide +kernel)) (fun _ h9 => h9) rfl dX12_prove_128 ?_
              refine lv_icmp_ge (tgt := 149) hx hb dX12_prove_131 (by decide) (fun c_131 => ?_) (fun c_131 => ?_)
              · have t_131 : ((i6 : Nat) : Int) ≥ ((nd26 : Nat) : Int) := toI_ge c_131 (nI_toInt (by omega)) (nI_toInt (by omega))
                refine lv_iload_n hx hb dX12_prove_149 rfl (lv_at hl 1 rfl) ?_
                refine W.widen (k := 0) (n := 0) (by decide +kernel) (by decide +kernel) ?_
                exact W.iret (v := nq) hx hb hr (fun t9_ ht hW => ⟨⟨nq, (g114, f2w109, f3w109, f4109, f5109, f6109, f74109, gs114, F109, L8109, qd109, 0, (nI C109), (nI R109), (nI 2), f7126, f7226, f73x, 0, sh, 1, 0, nd26, m2114), rfl, by (try dsimp only); exact ⟨f114_0, (f33_1).frame (fun p h1 h2 => by rw [f114_2 p (by omega) (by omega) (by omega), f109_7 p (by omega) (by omega)]; exact ho5 p (by omega) (by omega)), fun _ => ⟨by rw [f114_2 1051 (by omega) (by omega) (by omega), f109_7 1051 (by omega) (by omega)]; exact h515, f114_1⟩, fun q h1 h2 => by rw [f114_2 q (by omega) (by omega) (by omega), f109_7 q (by omega) (by omega), ho5 q h1 (by omega), f33_2 q (by omega)], hz28, Or.inr rfl⟩, by rw [ht]; exact hP, hD⟩, hS.F ht⟩) hS.2.2 dX12_prove_150
              · have t_131 : ¬ ((i6 : Nat) : Int) ≥ ((nd26 : Nat) : Int) := toI_nge c_131 (nI_toInt (by omega)) (nI_toInt (by omega))
                refine lv_iload_n hx hb dX12_prove_134 rfl (lv_at hl 1 rfl) ?_
                refine lv_aload_n hx hb dX12_prove_135 rfl (lv_at hl 0 rfl) ?_
                refine va_get (D := (dC, dI)) (ci := 12) (v := .ref (a 73)) (C := RX12) (T := TX12) (N := 163) (fs := fM (vS a (fT (fT (fT (fT (fT (fT (fT (fT (fT vi 0 0) 119 (nI nd26)) 116 0) 5 (nI C109)) 6 (nI R109)) 7 (nI 2)) 11 0) 118 sh) 117 1) (fT vj 12 qd109))) hx hb hts iwsRX12_prove_in12 hown hK hP 0 rfl rfl 122 (by decide) (hts (.fieldLink RX12 242 "OptimaWorksModel" "needKept" "[I") (by decide +kernel)) (fun _ h9 => h9) rfl dX12_prove_136 ?_
                refine lv_iload_n hx hb dX12_prove_139 rfl (lv_at hl 2 rfl) ?_
                refine va_iald (cA := k 73) (n := 28) (f := f73x) hx hb hK hP 74 73 (WR_get 73 (by decide)) (TR_get 73 (by decide)) (vp_in_nI (show i6 < 28 by omega) (by omega)) dX12_prove_140 ?_
                refine lv_topi (fun y1 hy1 => ?_)
                obtain rfl : (f73x i6) = y1 := (hy1.trans (by rw [nI_clamp (by omega)])).symm
                refine lv_iadd hx hb dX12_prove_141 ?_
                refine lv_istore_n hx hb dX12_prove_142 rfl hl (by decide) rfl (fun ls (hl : lv_has ls _ ([(1, .int (nq + (f73x i6))), (0, .ref h0), (2, .int (nI i6))])) => ?_)
                refine lv_iinc (v := (nI (i6 + 1))) hx hb dX12_prove_143 hl (k := 2) rfl (nI_add i6 1) (by decide) rfl (fun ls (hl : lv_has ls _ ([(2, .int (nI (i6 + 1))), (1, .int (nq + (f73x i6))), (0, .ref h0)])) => ?_)
                refine lv_goto (tgt := 126) hx hb dX12_prove_146 (by decide) ?_
                have hl : lv_has _ _ ([(0, .ref h0), (1, .int (nq + (f73x i6))), (2, .int (nI (i6 + 1)))]) := lv_sub hl [2, 1, 0] rfl
                exact ih126_1 (i6 + 1) (nq + (f73x i6)) _ _ _ (by omega) (by omega) hP hD hS hl
          · have t_78 : ¬ (kq).toInt < 0 := toI_nlt c_78 rfl (by decide)
            obtain ⟨kk, h_kk, rfl⟩ := of_toInt (x := kq) (k := 28) (by omega) (by omega)
            have e_kk : (nI kk).toInt = (kk : Int) := nI_toInt (by omega)
            refine lv_aload_n hx hb dX12_prove_81 rfl (lv_at hl 0 rfl) ?_
            refine va_get (D := (dC, dI)) (ci := 12) (v := .ref (a 73)) (C := RX12) (T := TX12) (N := 163) (fs := fM (vS a (fT (fT (fT (fT (fT (fT (fT (fT vi 0 0) 119 (nI nd26)) 116 0) 5 cn2x) 6 rn2x) 7 gn2x) 11 qkx) 118 sh) (fT vj 12 qdx))) hx hb hts iwsRX12_prove_in12 hown hK hP 0 rfl rfl 122 (by decide) (hts (.fieldLink RX12 242 "OptimaWorksModel" "needKept" "[I") (by decide +kernel)) (fun _ h9 => h9) rfl dX12_prove_82 ?_
            refine lv_iload_n hx hb dX12_prove_85 rfl (lv_at hl 1 rfl) ?_
            refine lv_iconst (v := 0) hx hb dX12_prove_86 (by decide) ?_
            refine va_iast (cA := k 73) (n := 28) (f := f73x) hx hb hK hP hD hS 74 73 (WR_get 73 (by decide)) (TR_get 73 (by decide)) (vp_in_nI (show kk < 28 by omega) (by omega)) dX12_prove_87 (fun H locs hP hD hS => ?_)
            have e9 : fT (fT (fT (fT (fT (fT (fT (fT (fT (fT vF 71 f7126) 72 f7226) 73 (upd f73x ((nI kk)).toNatClampNeg 0)) 0 gx) 4 f4x) 6 f6x) 5 f5x) 2 f2wx) 3 f3wx) 74 f74x = fT (fT (fT (fT (fT (fT (fT (fT (fT (fT (fT vF 71 f7126) 72 f7226) 73 f73x) 0 gx) 4 f4x) 6 f6x) 5 f5x) 2 f2wx) 3 f3wx) 74 f74x) 73 (upd f73x ((nI kk)).toNatClampNeg 0) := ((fT_sw _ _ _ (Nat.ne_of_beq_eq_false rfl)).trans (congrArg (fun g9 => fT g9 74 f74x) ((fT_sw _ _ _ (Nat.ne_of_beq_eq_false rfl)).trans (congrArg (fun g9 => fT g9 3 f3wx) ((fT_sw _ _ _ (Nat.ne_of_beq_eq_false rfl)).trans (congrArg (fun g9 => fT g9 2 f2wx) ((fT_sw _ _ _ (Nat.ne_of_beq_eq_false rfl)).trans (congrArg (fun g9 => fT g9 5 f5x) ((fT_sw _ _ _ (Nat.ne_of_beq_eq_false rfl)).trans (congrArg (fun g9 => fT g9 6 f6x) ((fT_sw _ _ _ (Nat.ne_of_beq_eq_false rfl)).trans (congrArg (fun g9 => fT g9 4 f4x) ((fT_sw _ _ _ (Nat.ne_of_beq_eq_false rfl)).trans (congrArg (fun g9 => fT g9 0 gx) (fT_sm _ _ _ _))))))))))))))).symm
            have hP : va_P (dC, dI) vwCl (WR a k h0 (fT (fT (fT (fT (fT (fT (fT (fT vi 0 0) 119 (nI nd26)) 116 0) 5 cn2x) 6 rn2x) 7 gn2x) 11 qkx) 118 sh) (fT vj 12 qdx) (fT (fT (fT (fT (fT (fT (fT (fT (fT (fT vF 71 f7126) 72 f7226) 73 (upd f73x ((nI kk)).toNatClampNeg 0)) 0 gx) 4 f4x) 6 f6x) 5 f5x) 2 f2wx) 3 f3wx) 74 f74x) (fT (fT (fT vG 1 gsx) 7 Fx) 8 L8x)) H := by rw [e9, ← WR_F 73 (by decide) _ rfl]; exact hP
            have hD : va_D A (WR a k h0 (fT (fT (fT (fT (fT (fT (fT (fT vi 0 0) 119 (nI nd26)) 116 0) 5 cn2x) 6 rn2x) 7 gn2x) 11 qkx) 118 sh) (fT vj 12 qdx) (fT (fT (fT (fT (fT (fT (fT (fT (fT (fT vF 71 f7126) 72 f7226) 73 (upd f73x ((nI kk)).toNatClampNeg 0)) 0 gx) 4 f4x) 6 f6x) 5 f5x) 2 f2wx) 3 f3wx) 74 f74x) (fT (fT (fT vG 1 gsx) 7 Fx) 8 L8x)) := by rw [e9, ← WR_F 73 (by decide) _ rfl]; exact hD
            clear e9
            refine lv_aload_n hx hb dX12_prove_88 rfl (lv_at hl 0 rfl) ?_
            have hFc := allFree hD hS hA
            refine va_calli (va_runV (As := []) (rest := []) ⟨hx, hb, hml, hown, hts⟩ (r_X12_proves l dC dI a k h0 (fT (fT (fT (fT (fT (fT (fT (fT vi 0 0) 119 (nI nd26)) 116 0) 5 cn2x) 6 rn2x) 7 gn2x) 11 qkx) 118 sh) (fT vj 12 qdx) (fT (fT (fT (fT (fT (fT (fT (fT (fT (fT vF 71 f7126) 72 f7226) 73 (upd f73x ((nI kk)).toNatClampNeg 0)) 0 gx) 4 f4x) 6 f6x) 5 f5x) 2 f2wx) 3 f3wx) 74 f74x) (fT (fT (fT vG 1 gsx) 7 Fx) 8 L8x) vn mr gq z26 nd26 m5 hB5 (by first | with_reducible assumption | decide | omega | rfl | assumption) (by first | with_reducible assumption | decide | omega | rfl | assumption) (by first | with_reducible assumption | decide | omega | rfl | assumption) (by first | with_reducible assumption | decide | omega | rfl | assumption) (by first | with_reducible assumption | decide | omega | rfl | assumption) (by first | with_reducible assumption | decide | omega | rfl | assumption) (rfl) (f26_0) (hPP5) H.size) (cwV 0 hts gwsRX12_prove_6 rfl rfl rfl hd_yX12_proves_RX12 (by decide +kernel)) (fz_pre (va_recv hK hP (ci := 12) (q0 := 0) rfl rfl) hP hK hD) rfl rfl hl.1 rfl (lv_room (Nat.le_of_ble_eq_true rfl)) dX12_prove_89 (by decide +kernel)) hS (fun q _ h => hFc q h) hFc (fun r89 u t9_ H locs ht hvm hw9 hB9 hz1 hk1 hS => ?_)
            revert u
            refine fz_p15 ?_
            intro g89 f2w89 f3w89 f489 f589 f689 f7489 gs89 F89 L889 qd89 m289 cn289 rn289 gn289 hw9 hB9
            try dsimp only at hw9 hB9
            have hP : va_P (dC, dI) vwCl (WR a k h0 (fT (fT (fT (fT (fT (fT (fT (fT (fT (fT (fT (fT vi 0 0) 119 (nI nd26)) 116 0) 5 cn2x) 6 rn2x) 7 gn2x) 11 qkx) 118 sh) 5 cn289) 6 rn289) 7 gn289) 11 0) (fT (fT vj 12 qdx) 12 qd89) (fT (fT (fT (fT (fT (fT (fT (fT (fT (fT (fT (fT (fT (fT (fT (fT (fT vF 71 f7126) 72 f7226) 73 (upd f73x ((nI kk)).toNatClampNeg 0)) 0 gx) 4 f4x) 6 f6x) 5 f5x) 2 f2wx) 3 f3wx) 74 f74x) 74 f7489) 0 g89) 4 f489) 6 f689) 2 f2w89) 3 f3w89) 5 f589) (fT (fT (fT (fT (fT (fT vG 1 gsx) 7 Fx) 8 L8x) 1 gs89) 7 F89) 8 L889)) H := fz_P ht hB9.1
            have hD : va_D A (WR a k h0 (fT (fT (fT (fT (fT (fT (fT (fT (fT (fT (fT (fT vi 0 0) 119 (nI nd26)) 116 0) 5 cn2x) 6 rn2x) 7 gn2x) 11 qkx) 118 sh) 5 cn289) 6 rn289) 7 gn289) 11 0) (fT (fT vj 12 qdx) 12 qd89) (fT (fT (fT (fT (fT (fT (fT (fT (fT (fT (fT (fT (fT (fT (fT (fT (fT vF 71 f7126) 72 f7226) 73 (upd f73x ((nI kk)).toNatClampNeg 0)) 0 gx) 4 f4x) 6 f6x) 5 f5x) 2 f2wx) 3 f3wx) 74 f74x) 74 f7489) 0 g89) 4 f489) 6 f689) 2 f2w89) 3 f3w89) 5 f589) (fT (fT (fT (fT (fT (fT vG 1 gsx) 7 Fx) 8 L8x) 1 gs89) 7 F89) 8 L889)) := hB9.2.weaken (fun _ q _ h => hFc q.1 h)
            have e9 : fT (fT (fT (fT (fT (fT (fT (fT vi 0 0) 119 (nI nd26)) 116 0) 5 cn289) 6 rn289) 7 gn289) 11 0) 118 sh = fT (fT (fT (fT (fT (fT (fT (fT (fT (fT (fT (fT vi 0 0) 119 (nI nd26)) 116 0) 5 cn2x) 6 rn2x) 7 gn2x) 11 qkx) 118 sh) 5 cn289) 6 rn289) 7 gn289) 11 0 := ((congrArg (fun g9 => fT (fT (fT g9 6 rn289) 7 gn289) 11 0) ((fT_sw _ _ _ (Nat.ne_of_beq_eq_false rfl)).trans (congrArg (fun g9 => fT g9 118 sh) ((fT_sw _ _ _ (Nat.ne_of_beq_eq_false rfl)).trans (congrArg (fun g9 => fT g9 11 qkx) ((fT_sw _ _ _ (Nat.ne_of_beq_eq_false rfl)).trans (congrArg (fun g9 => fT g9 7 gn2x) ((fT_sw _ _ _ (Nat.ne_of_beq_eq_false rfl)).trans (congrArg (fun g9 => fT g9 6 rn2x) (fT_sm _ _ _ _)))))))))).trans ((congrArg (fun g9 => fT (fT g9 7 gn289) 11 0) ((fT_sw _ _ _ (Nat.ne_of_beq_eq_false rfl)).trans (congrArg (fun g9 => fT g9 118 sh) ((fT_sw _ _ _ (Nat.ne_of_beq_eq_false rfl)).trans (congrArg (fun g9 => fT g9 11 qkx) ((fT_sw _ _ _ (Nat.ne_of_beq_eq_false rfl)).trans (congrArg (fun g9 => fT g9 7 gn2x) (fT_sm _ _ _ _)))))))).trans ((congrArg (fun g9 => fT g9 11 0) ((fT_sw _ _ _ (Nat.ne_of_beq_eq_false rfl)).trans (congrArg (fun g9 => fT g9 118 sh) ((fT_sw _ _ _ (Nat.ne_of_beq_eq_false rfl)).trans (congrArg (fun g9 => fT g9 11 qkx) (fT_sm _ _ _ _)))))).trans ((fT_sw _ _ _ (Nat.ne_of_beq_eq_false rfl)).trans (congrArg (fun g9 => fT g9 118 sh) (fT_sm _ _ _ _)))))).symm
            rw [← e9] at hP hD
            clear e9
            have e9 : fT vj 12 qd89 = fT (fT vj 12 qdx) 12 qd89 := (fT_sm _ _ _ _).symm
            rw [← e9] at hP hD
            clear e9
            have e9 : fT (fT (fT (fT (fT (fT (fT (fT (fT (fT vF 71 f7126) 72 f7226) 73 (upd f73x ((nI kk)).toNatClampNeg 0)) 0 g89) 4 f489) 6 f689) 5 f589) 2 f2w89) 3 f3w89) 74 f7489 = fT (fT (fT (fT (fT (fT (fT (fT (fT (fT (fT (fT (fT (fT (fT (fT (fT vF 71 f7126) 72 f7226) 73 (upd f73x ((nI kk)).toNatClampNeg 0)) 0 gx) 4 f4x) 6 f6x) 5 f5x) 2 f2wx) 3 f3wx) 74 f74x) 74 f7489) 0 g89) 4 f489) 6 f689) 2 f2w89) 3 f3w89) 5 f589 := ((congrArg (fun g9 => fT (fT (fT (fT (fT (fT g9 0 g89) 4 f489) 6 f689) 2 f2w89) 3 f3w89) 5 f589) (fT_sm _ _ _ _)).trans ((congrArg (fun g9 => fT (fT (fT (fT (fT g9 4 f489) 6 f689) 2 f2w89) 3 f3w89) 5 f589) ((fT_sw _ _ _ (Nat.ne_of_beq_eq_false rfl)).trans (congrArg (fun g9 => fT g9 74 f7489) ((fT_sw _ _ _ (Nat.ne_of_beq_eq_false rfl)).trans (congrArg (fun g9 => fT g9 3 f3wx) ((fT_sw _ _ _ (Nat.ne_of_beq_eq_false rfl)).trans (congrArg (fun g9 => fT g9 2 f2wx) ((fT_sw _ _ _ (Nat.ne_of_beq_eq_false rfl)).trans (congrArg (fun g9 => fT g9 5 f5x) ((fT_sw _ _ _ (Nat.ne_of_beq_eq_false rfl)).trans (congrArg (fun g9 => fT g9 6 f6x) ((fT_sw _ _ _ (Nat.ne_of_beq_eq_false rfl)).trans (congrArg (fun g9 => fT g9 4 f4x) (fT_sm _ _ _ _)))))))))))))).trans ((congrArg (fun g9 => fT (fT (fT (fT g9 6 f689) 2 f2w89) 3 f3w89) 5 f589) ((fT_sw _ _ _ (Nat.ne_of_beq_eq_false rfl)).trans (congrArg (fun g9 => fT g9 74 f7489) ((fT_sw _ _ _ (Nat.ne_of_beq_eq_false rfl)).trans (congrArg (fun g9 => fT g9 3 f3wx) ((fT_sw _ _ _ (Nat.ne_of_beq_eq_false rfl)).trans (congrArg (fun g9 => fT g9 2 f2wx) ((fT_sw _ _ _ (Nat.ne_of_beq_eq_false rfl)).trans (congrArg (fun g9 => fT g9 5 f5x) ((fT_sw _ _ _ (Nat.ne_of_beq_eq_false rfl)).trans (congrArg (fun g9 => fT g9 6 f6x) (fT_sm _ _ _ _)))))))))))).trans ((congrArg (fun g9 => fT (fT (fT g9 2 f2w89) 3 f3w89) 5 f589) ((fT_sw _ _ _ (Nat.ne_of_beq_eq_false rfl)).trans (congrArg (fun g9 => fT g9 74 f7489) ((fT_sw _ _ _ (Nat.ne_of_beq_eq_false rfl)).trans (congrArg (fun g9 => fT g9 3 f3wx) ((fT_sw _ _ _ (Nat.ne_of_beq_eq_false rfl)).trans (congrArg (fun g9 => fT g9 2 f2wx) ((fT_sw _ _ _ (Nat.ne_of_beq_eq_false rfl)).trans (congrArg (fun g9 => fT g9 5 f5x) (fT_sm _ _ _ _)))))))))).trans ((congrArg (fun g9 => fT (fT g9 3 f3w89) 5 f589) ((fT_sw _ _ _ (Nat.ne_of_beq_eq_false rfl)).trans (congrArg (fun g9 => fT g9 74 f7489) ((fT_sw _ _ _ (Nat.ne_of_beq_eq_false rfl)).trans (congrArg (fun g9 => fT g9 3 f3wx) (fT_sm _ _ _ _)))))).trans ((congrArg (fun g9 => fT g9 5 f589) ((fT_sw _ _ _ (Nat.ne_of_beq_eq_false rfl)).trans (congrArg (fun g9 => fT g9 74 f7489) (fT_sm _ _ _ _)))).trans ((fT_sw _ _ _ (Nat.ne_of_beq_eq_false rfl)).trans (congrArg (fun g9 => fT g9 74 f7489) ((fT_sw _ _ _ (Nat.ne_of_beq_eq_false rfl)).trans (congrArg (fun g9 => fT g9 3 f3w89) ((fT_sw _ _ _ (Nat.ne_of_beq_eq_false rfl)).trans (congrArg (fun g9 => fT g9 2 f2w89) (fT_sm _ _ _ _))))))))))))).symm
            rw [← e9] at hP hD
            clear e9
            have e9 : fT (fT (fT vG 1 gs89) 7 F89) 8 L889 = fT (fT (fT (fT (fT (fT vG 1 gsx) 7 Fx) 8 L8x) 1 gs89) 7 F89) 8 L889 := ((congrArg (fun g9 => fT (fT g9 7 F89) 8 L889) ((fT_sw _ _ _ (Nat.ne_of_beq_eq_false rfl)).trans (congrArg (fun g9 => fT g9 8 L8x) ((fT_sw _ _ _ (Nat.ne_of_beq_eq_false rfl)).trans (congrArg (fun g9 => fT g9 7 Fx) (fT_sm _ _ _ _)))))).trans ((congrArg (fun g9 => fT g9 8 L889) ((fT_sw _ _ _ (Nat.ne_of_beq_eq_false rfl)).trans (congrArg (fun g9 => fT g9 8 L8x) (fT_sm _ _ _ _)))).trans (fT_sm _ _ _ _))).symm
            rw [← e9] at hP hD
            clear e9
            have hP : va_P (dC, dI) vwCl (WR a k h0 (fT (fT (fT (fT (fT (fT (fT (fT vi 0 0) 119 (nI nd26)) 116 0) 5 cn289) 6 rn289) 7 gn289) 11 0) 118 sh) (fT vj 12 qd89) (fT (fT (fT (fT (fT (fT (fT (fT (fT (fT vF 71 f7126) 72 f7226) 73 (upd f73x ((nI kk)).toNatClampNeg 0)) 0 g89) 4 f489) 6 f689) 5 f589) 2 f2w89) 3 f3w89) 74 f7489) (fT (fT (fT vG 1 gs89) 7 F89) 8 L889)) H := hP
            have hD : va_D A (WR a k h0 (fT (fT (fT (fT (fT (fT (fT (fT vi 0 0) 119 (nI nd26)) 116 0) 5 cn289) 6 rn289) 7 gn289) 11 0) 118 sh) (fT vj 12 qd89) (fT (fT (fT (fT (fT (fT (fT (fT (fT (fT vF 71 f7126) 72 f7226) 73 (upd f73x ((nI kk)).toNatClampNeg 0)) 0 g89) 4 f489) 6 f689) 5 f589) 2 f2w89) 3 f3w89) 74 f7489) (fT (fT (fT vG 1 gs89) 7 F89) 8 L889)) := hD
            revert hw9
            refine fz_a3 ?_
            intro f89_0 f89_1 f89_2
            refine lv_if_ne (tgt := 102) hx hb dX12_prove_92 (by decide) (fun c_92 => ?_) (fun c_92 => ?_)
            · have t_92 : (r89).toInt ≠ 0 := toI_ne c_92 rfl (by decide)
              refine lv_iinc (v := ((nI kk) + (-1))) hx hb dX12_prove_102 hl (k := 1) rfl rfl (by decide) rfl (fun ls (hl : lv_has ls _ ([(1, .int ((nI kk) + (-1))), (0, .ref h0)])) => ?_)
              refine lv_goto (tgt := 77) hx hb dX12_prove_105 (by decide) ?_
              have hl : lv_has _ _ ([(0, .ref h0), (1, .int ((nI kk) + (-1)))]) := lv_sub hl [1, 0] rfl
              exact ih77 ((nI kk) + (-1)) (kk1 - 1) (upd f73x ((nI kk)).toNatClampNeg 0) g89 f2w89 f3w89 f489 f589 f689 f7489 gs89 F89 L889 qd89 0 cn289 rn289 gn289 m289 _ _ _ (f89_0) (by rw [m1T (by omega)]; omega) (by omega) (by rw [f89_2 1046 (by omega) (by omega) (by omega), f89_2 1047 (by omega) (by omega) (by omega)]; exact hPP5) (by rw [f89_2 1051 (by omega) (by omega) (by omega)]; exact h515) (fun q h1 h2 => by rw [f89_2 q h1 (by omega) (by omega)]; exact ho5 q h1 h2) (by omega) hP hD hS hl
            · have t_92 : (r89).toInt = 0 := toI_nne c_92 rfl (by decide)
              refine lv_aload_n hx hb dX12_prove_95 rfl (lv_at hl 0 rfl) ?_
              refine va_get (D := (dC, dI)) (ci := 12) (v := .ref (a 73)) (C := RX12) (T := TX12) (N := 163) (fs := fM (vS a (fT (fT (fT (fT (fT (fT (fT (fT vi 0 0) 119 (nI nd26)) 116 0) 5 cn289) 6 rn289) 7 gn289) 11 0) 118 sh) (fT vj 12 qd89))) hx hb hts iwsRX12_prove_in12 hown hK hP 0 rfl rfl 122 (by decide) (hts (.fieldLink RX12 242 "OptimaWorksModel" "needKept" "[I") (by decide +kernel)) (fun _ h9 => h9) rfl dX12_prove_96 ?_
              refine lv_iload_n hx hb dX12_prove_99 rfl (lv_at hl 1 rfl) ?_
              refine lv_iconst (v := 1) hx hb dX12_prove_100 (by decide) ?_
              refine va_iast (cA := k 73) (n := 28) (f := (upd f73x ((nI kk)).toNatClampNeg 0)) hx hb hK hP hD hS 74 73 (WR_get 73 (by decide)) (TR_get 73 (by decide)) (vp_in_nI (show kk < 28 by omega) (by omega)) dX12_prove_101 (fun H locs hP hD hS => ?_)
              have e9 : fT (fT (fT (fT (fT (fT (fT (fT (fT (fT vF 71 f7126) 72 f7226) 73 (upd (upd f73x ((nI kk)).toNatClampNeg 0) ((nI kk)).toNatClampNeg 1)) 0 g89) 4 f489) 6 f689) 5 f589) 2 f2w89) 3 f3w89) 74 f7489 = fT (fT (fT (fT (fT (fT (fT (fT (fT (fT (fT vF 71 f7126) 72 f7226) 73 (upd f73x ((nI kk)).toNatClampNeg 0)) 0 g89) 4 f489) 6 f689) 5 f589) 2 f2w89) 3 f3w89) 74 f7489) 73 (upd (upd f73x ((nI kk)).toNatClampNeg 0) ((nI kk)).toNatClampNeg 1) := ((fT_sw _ _ _ (Nat.ne_of_beq_eq_false rfl)).trans (congrArg (fun g9 => fT g9 74 f7489) ((fT_sw _ _ _ (Nat.ne_of_beq_eq_false rfl)).trans (congrArg (fun g9 => fT g9 3 f3w89) ((fT_sw _ _ _ (Nat.ne_of_beq_eq_false rfl)).trans (congrArg (fun g9 => fT g9 2 f2w89) ((fT_sw _ _ _ (Nat.ne_of_beq_eq_false rfl)).trans (congrArg (fun g9 => fT g9 5 f589) ((fT_sw _ _ _ (Nat.ne_of_beq_eq_false rfl)).trans (congrArg (fun g9 => fT g9 6 f689) ((fT_sw _ _ _ (Nat.ne_of_beq_eq_false rfl)).trans (congrArg (fun g9 => fT g9 4 f489) ((fT_sw _ _ _ (Nat.ne_of_beq_eq_false rfl)).trans (congrArg (fun g9 => fT g9 0 g89) (fT_sm _ _ _ _))))))))))))))).symm
              have hP : va_P (dC, dI) vwCl (WR a k h0 (fT (fT (fT (fT (fT (fT (fT (fT vi 0 0) 119 (nI nd26)) 116 0) 5 cn289) 6 rn289) 7 gn289) 11 0) 118 sh) (fT vj 12 qd89) (fT (fT (fT (fT (fT (fT (fT (fT (fT (fT vF 71 f7126) 72 f7226) 73 (upd (upd f73x ((nI kk)).toNatClampNeg 0) ((nI kk)).toNatClampNeg 1)) 0 g89) 4 f489) 6 f689) 5 f589) 2 f2w89) 3 f3w89) 74 f7489) (fT (fT (fT vG 1 gs89) 7 F89) 8 L889)) H := by rw [e9, ← WR_F 73 (by decide) _ rfl]; exact hP
              have hD : va_D A (WR a k h0 (fT (fT (fT (fT (fT (fT (fT (fT vi 0 0) 119 (nI nd26)) 116 0) 5 cn289) 6 rn289) 7 gn289) 11 0) 118 sh) (fT vj 12 qd89) (fT (fT (fT (fT (fT (fT (fT (fT (fT (fT vF 71 f7126) 72 f7226) 73 (upd (upd f73x ((nI kk)).toNatClampNeg 0) ((nI kk)).toNatClampNeg 1)) 0 g89) 4 f489) 6 f689) 5 f589) 2 f2w89) 3 f3w89) 74 f7489) (fT (fT (fT vG 1 gs89) 7 F89) 8 L889)) := by rw [e9, ← WR_F 73 (by decide) _ rfl]; exact hD
              clear e9
              refine lv_iinc (v := ((nI kk) + (-1))) hx hb dX12_prove_102 hl (k := 1) rfl rfl (by decide) rfl (fun ls (hl : lv_has ls _ ([(1, .int ((nI kk) + (-1))), (0, .ref h0)])) => ?_)
              refine lv_goto (tgt := 77) hx hb dX12_prove_105 (by decide) ?_
              have hl : lv_has _ _ ([(0, .ref h0), (1, .int ((nI kk) + (-1)))]) := lv_sub hl [1, 0] rfl
              exact ih77 ((nI kk) + (-1)) (kk1 - 1) (upd (upd f73x ((nI kk)).toNatClampNeg 0) ((nI kk)).toNatClampNeg 1) g89 f2w89 f3w89 f489 f589 f689 f7489 gs89 F89 L889 qd89 0 cn289 rn289 gn289 m289 _ _ _ (f89_0) (by rw [m1T (by omega)]; omega) (by omega) (by rw [f89_2 1046 (by omega) (by omega) (by omega), f89_2 1047 (by omega) (by omega) (by omega)]; exact hPP5) (by rw [f89_2 1051 (by omega) (by omega) (by omega)]; exact h515) (fun q h1 h2 => by rw [f89_2 q h1 (by omega) (by omega)]; exact ho5 q h1 h2) (by omega) hP hD hS hl
theorem dX12_need_0 : decode cX12_need 0 = .ok (.aload_n 0, 1) := dk_42 (by decide +kernel)
theorem dX12_need_1 : decode cX12_need 1 = .ok (.iconst 0, 1) := dk_3 (by decide +kernel)
theorem dX12_need_2 : decode cX12_need 2 = .ok (.putfield 348, 3) := dk_181 (by decide +kernel)
theorem dX12_need_5 : decode cX12_need 5 = .ok (.aload_n 0, 1) := dk_42 (by decide +kernel)
theorem dX12_need_6 : decode cX12_need 6 = .ok (.getfield 814, 3) := dk_180 (by decide +kernel)
theorem dX12_need_9 : decode cX12_need 9 = .ok (.ifCond .eq 15, 3) := dk_153 (by decide +kernel)
theorem dX12_need_12 : decode cX12_need 12 = .ok (.iload_n 1, 1) := dk_27 (by decide +kernel)
theorem dX12_need_13 : decode cX12_need 13 = .ok (.ifCond .lt 11, 3) := dk_155 (by decide +kernel)
theorem dX12_need_16 : decode cX12_need 16 = .ok (.iload_n 1, 1) := dk_27 (by decide +kernel)
theorem dX12_need_17 : decode cX12_need 17 = .ok (.aload_n 0, 1) := dk_42 (by decide +kernel)
theorem dX12_need_18 : decode cX12_need 18 = .ok (.getfield 894, 3) := dk_180 (by decide +kernel)
theorem dX12_need_21 : decode cX12_need 21 = .ok (.if_icmp .lt 5, 3) := dk_161 (by decide +kernel)
theorem dX12_need_24 : decode cX12_need 24 = .ok (.iconst (-1), 1) := dk_2 (by decide +kernel)
theorem dX12_need_25 : decode cX12_need 25 = .ok (.ireturn, 1) := dk_172 (by decide +kernel)
theorem dX12_need_26 : decode cX12_need 26 = .ok (.iload_n 2, 1) := dk_28 (by decide +kernel)
theorem dX12_need_27 : decode cX12_need 27 = .ok (.ifCond .ne 12, 3) := dk_154 (by decide +kernel)
theorem dX12_need_30 : decode cX12_need 30 = .ok (.aload_n 0, 1) := dk_42 (by decide +kernel)
theorem dX12_need_31 : decode cX12_need 31 = .ok (.getfield 242, 3) := dk_180 (by decide +kernel)
theorem dX12_need_34 : decode cX12_need 34 = .ok (.iload_n 1, 1) := dk_27 (by decide +kernel)
theorem dX12_need_35 : decode cX12_need 35 = .ok (.iaload, 1) := dk_46 (by decide +kernel)
theorem dX12_need_36 : decode cX12_need 36 = .ok (.goto 32, 3) := dk_167 (by decide +kernel)
theorem dX12_need_39 : decode cX12_need 39 = .ok (.iload_n 2, 1) := dk_28 (by decide +kernel)
theorem dX12_need_40 : decode cX12_need 40 = .ok (.iconst 1, 1) := dk_4 (by decide +kernel)
theorem dX12_need_41 : decode cX12_need 41 = .ok (.if_icmp .ne 12, 3) := dk_160 (by decide +kernel)
theorem dX12_need_44 : decode cX12_need 44 = .ok (.aload_n 0, 1) := dk_42 (by decide +kernel)
theorem dX12_need_45 : decode cX12_need 45 = .ok (.getfield 239, 3) := dk_180 (by decide +kernel)
theorem dX12_need_48 : decode cX12_need 48 = .ok (.iload_n 1, 1) := dk_27 (by decide +kernel)
theorem dX12_need_49 : decode cX12_need 49 = .ok (.iaload, 1) := dk_46 (by decide +kernel)
theorem dX12_need_50 : decode cX12_need 50 = .ok (.goto 18, 3) := dk_167 (by decide +kernel)
theorem dX12_need_53 : decode cX12_need 53 = .ok (.iload_n 2, 1) := dk_28 (by decide +kernel)
theorem dX12_need_54 : decode cX12_need 54 = .ok (.iconst 2, 1) := dk_5 (by decide +kernel)
theorem dX12_need_55 : decode cX12_need 55 = .ok (.if_icmp .ne 12, 3) := dk_160 (by decide +kernel)
theorem dX12_need_58 : decode cX12_need 58 = .ok (.aload_n 0, 1) := dk_42 (by decide +kernel)
theorem dX12_need_59 : decode cX12_need 59 = .ok (.getfield 236, 3) := dk_180 (by decide +kernel)
theorem dX12_need_62 : decode cX12_need 62 = .ok (.iload_n 1, 1) := dk_27 (by decide +kernel)
theorem dX12_need_63 : decode cX12_need 63 = .ok (.iaload, 1) := dk_46 (by decide +kernel)
theorem dX12_need_64 : decode cX12_need 64 = .ok (.goto 4, 3) := dk_167 (by decide +kernel)
theorem dX12_need_67 : decode cX12_need 67 = .ok (.iconst (-1), 1) := dk_2 (by decide +kernel)
theorem dX12_need_68 : decode cX12_need 68 = .ok (.ireturn, 1) := dk_172 (by decide +kernel)
def wsRX12_need : List Cond := .code yX12_need cX12_need 3 (some .int) :: ([.fieldLink RX12 348 "OptimaWorksModel" "thrown" "I", .fieldLink RX12 814 "OptimaWorksModel" "hasProof" "Z", .fieldLink RX12 894 "OptimaWorksModel" "needs" "I", .fieldLink RX12 236 "OptimaWorksModel" "needKind" "[I", .fieldLink RX12 239 "OptimaWorksModel" "needOf" "[I", .fieldLink RX12 242 "OptimaWorksModel" "needKept" "[I"] ++ wsX120)
theorem iwsRX12_need_in12 : ∀ w ∈ wsX120, w ∈ wsRX12_need := fun _ h => List.mem_cons_of_mem _ (List.mem_append_right _ h)
theorem gdwsRX12_need : wsRX12_need.all goodWord = true := gdC rfl (gdA (by decide +kernel : ([.fieldLink RX12 348 "OptimaWorksModel" "thrown" "I", .fieldLink RX12 814 "OptimaWorksModel" "hasProof" "Z", .fieldLink RX12 894 "OptimaWorksModel" "needs" "I", .fieldLink RX12 236 "OptimaWorksModel" "needKind" "[I", .fieldLink RX12 239 "OptimaWorksModel" "needOf" "[I", .fieldLink RX12 242 "OptimaWorksModel" "needKept" "[I"] : List Cond).all goodWord = true) gdwsX120)
set_option maxHeartbeats 4000000 in
set_option maxRecDepth 100000 in
/-- need(i, what) -/
theorem r_X12_need (l : Launch) (dC : Nat → ClassId) (dI : Nat → Nat → Nat) (a : Nat → Nat) (k : Nat → ClassId) (h0 : Nat) (vi : Nat → Int32) (vj : Nat → Int64) (vF : Nat → Nat → Int32) (vG : Nat → Nat → Int64) (iv : Int32) (wv : Int32) (nd : Nat) (hnd : vi 119 = nI nd) (hnd28 : nd ≤ 28) (sz : Nat) : Met l yX12_need wsRX12_need ({ frames := 0, cells := 0, slots := 0, locals := 0 }) (va_Pc [.ref h0, .int iv, .int wv] (fun U => U.heap.size = sz ∧ va_P (dC, dI) vwCl (WR a k h0 vi vj vF vG) U.heap ∧ va_K (dC, dI) vwCl (tX12 k) U ∧ va_D (fun _ => True) (WR a k h0 vi vj vF vG))) (va_Qi (fun (r : Int32) (u : Unit) => True) (fun (u : Unit) t => va_P (dC, dI) vwCl (WR a k h0 (fT vi 0 0) vj vF vG) t.heap ∧ va_D (va_A (WR a k h0 vi vj vF vG) sz) (WR a k h0 (fT vi 0 0) vj vF vG)) (va_A (WR a k h0 vi vj vF vG) sz)) 0 0 (va_A (WR a k h0 vi vj vF vG) sz) := by
  refine Met.ofW (cc := cX12_need) (maxL := 3) (ret := (some .int)) (by decide) rfl ?_
  intro p e s m args below meth c s₁ B hml hv
  obtain ⟨rfl, hsz, hP, hK, hD0⟩ := hv
  have hx := B.exec
  have hb := B.bytes
  have hr := B.returns
  have hts := atoms_spec (ws := wsRX12_need) B.pre
  have hown : s.vm.findClass RX12 = some m.cls := findClass_of_methodNamed B.named
  have hlocks := B.notSynchronized
  subst hsz
  have hD := hD0.self (sz := s.heap.size)
  generalize hAe : va_A (WR a k h0 vi vj vF vG) s.heap.size = A at hD ⊢
  have hA : ∀ q : Nat, s.heap.size ≤ q → A q := fun q h => by rw [← hAe]; exact Or.inr h
  have hS : va_S A s.heap s.heap [] := va_S.rf
  have hl := lv_entry ([.ref h0, .int iv, .int wv]) (n := 3) (Nat.le_of_ble_eq_true rfl)
  rw [lg_entry_eq]
  generalize (lg_sl ([.ref h0, .int iv, .int wv]) ++ List.replicate (3 - (lg_sl ([.ref h0, .int iv, .int wv])).length) Slot.unset).toArray = ls at hl ⊢
  have hl : lv_has ls 3 [(0, .ref h0), (1, .int iv), (2, .int wv)] := hl
  refine lv_aload_n hx hb dX12_need_0 rfl (lv_at hl 0 rfl) ?_
  refine lv_iconst (v := 0) hx hb dX12_need_1 (by decide) ?_
  refine va_put (D := (dC, dI)) (ci := 12) (v := .int 0) (ty := .int) (C := RX12) (T := TX12) (N := 163) (fs := fM (vS a vi vj)) hx hb hts iwsRX12_need_in12 tyX12 tyX12_ok nmX12 hown hK hP hD hS 0 rfl rfl 0 (by decide) (hts (.fieldLink RX12 348 "OptimaWorksModel" "thrown" "I") (by decide +kernel)) (fun _ h9 => h9) rfl (by decide +kernel) rfl rfl (Nat.le_of_ble_eq_true rfl) dX12_need_2 (fun H locs hP hD hS => ?_)
  have hP : va_P (dC, dI) vwCl (WR a k h0 (fT vi 0 0) vj vF vG) H := by rw [← WR_i 0 _ rfl]; exact hP
  have hD : va_D A (WR a k h0 (fT vi 0 0) vj vF vG) := by rw [← WR_i 0 _ rfl]; exact hD
  refine lv_aload_n hx hb dX12_need_5 rfl (lv_at hl 0 rfl) ?_
  refine va_get (D := (dC, dI)) (ci := 12) (v := .int (vi 117)) (C := RX12) (T := TX12) (N := 163) (fs := fM (vS a (fT vi 0 0) vj)) hx hb hts iwsRX12_need_in12 hown hK hP 0 rfl rfl 117 (by decide) (hts (.fieldLink RX12 814 "OptimaWorksModel" "hasProof" "Z") (by decide +kernel)) (fun _ h9 => h9) rfl dX12_need_6 ?_
  refine lv_if_eq (tgt := 24) hx hb dX12_need_9 (by decide) (fun c_9 => ?_) (fun c_9 => ?_)
  · have t_9 : ((vi 117)).toInt = 0 := toI_eq c_9 rfl (by decide)
    refine lv_iconst (v := (-1)) hx hb dX12_need_24 (by decide) ?_
    refine W.widen (k := 0) (n := 0) (by decide +kernel) (by decide +kernel) ?_
    exact W.iret (v := (-1)) hx hb hr (fun t9_ ht hW => ⟨⟨(-1), (), rfl, trivial, by rw [ht]; exact hP, hD⟩, hS.F ht⟩) hS.2.2 dX12_need_25
  · have t_9 : ¬ ((vi 117)).toInt = 0 := toI_neq c_9 rfl (by decide)
    refine lv_iload_n hx hb dX12_need_12 rfl (lv_at hl 1 rfl) ?_
    refine lv_if_lt (tgt := 24) hx hb dX12_need_13 (by decide) (fun c_13 => ?_) (fun c_13 => ?_)
    · have t_13 : (iv).toInt < 0 := toI_lt c_13 rfl (by decide)
      refine lv_iconst (v := (-1)) hx hb dX12_need_24 (by decide) ?_
      refine W.widen (k := 0) (n := 0) (by decide +kernel) (by decide +kernel) ?_
      exact W.iret (v := (-1)) hx hb hr (fun t9_ ht hW => ⟨⟨(-1), (), rfl, trivial, by rw [ht]; exact hP, hD⟩, hS.F ht⟩) hS.2.2 dX12_need_25
    · have t_13 : ¬ (iv).toInt < 0 := toI_nlt c_13 rfl (by decide)
      refine lv_iload_n hx hb dX12_need_16 rfl (lv_at hl 1 rfl) ?_
      refine lv_aload_n hx hb dX12_need_17 rfl (lv_at hl 0 rfl) ?_
      refine va_get (D := (dC, dI)) (ci := 12) (v := .int (vi 119)) (C := RX12) (T := TX12) (N := 163) (fs := fM (vS a (fT vi 0 0) vj)) hx hb hts iwsRX12_need_in12 hown hK hP 0 rfl rfl 119 (by decide) (hts (.fieldLink RX12 894 "OptimaWorksModel" "needs" "I") (by decide +kernel)) (fun _ h9 => h9) rfl dX12_need_18 ?_
      refine lv_topi (fun y1 hy1 => ?_)
      obtain rfl : (nI nd) = y1 := (hy1.trans (hnd)).symm
      refine lv_icmp_lt (tgt := 26) hx hb dX12_need_21 (by decide) (fun c_21 => ?_) (fun c_21 => ?_)
      · have t_21 : (iv).toInt < ((nd : Nat) : Int) := toI_lt c_21 rfl (nI_toInt (by omega))
        refine lv_iload_n hx hb dX12_need_26 rfl (lv_at hl 2 rfl) ?_
        refine lv_if_ne (tgt := 39) hx hb dX12_need_27 (by decide) (fun c_27 => ?_) (fun c_27 => ?_)
        · have t_27 : (wv).toInt ≠ 0 := toI_ne c_27 rfl (by decide)
          refine lv_iload_n hx hb dX12_need_39 rfl (lv_at hl 2 rfl) ?_
          refine lv_iconst (v := 1) hx hb dX12_need_40 (by decide) ?_
          refine lv_icmp_ne (tgt := 53) hx hb dX12_need_41 (by decide) (fun c_41 => ?_) (fun c_41 => ?_)
          · have t_41 : (wv).toInt ≠ 1 := toI_ne c_41 rfl (by decide)
            refine lv_iload_n hx hb dX12_need_53 rfl (lv_at hl 2 rfl) ?_
            refine lv_iconst (v := 2) hx hb dX12_need_54 (by decide) ?_
            refine lv_icmp_ne (tgt := 67) hx hb dX12_need_55 (by decide) (fun c_55 => ?_) (fun c_55 => ?_)
            · have t_55 : (wv).toInt ≠ 2 := toI_ne c_55 rfl (by decide)
              refine lv_iconst (v := (-1)) hx hb dX12_need_67 (by decide) ?_
              refine W.widen (k := 0) (n := 0) (by decide +kernel) (by decide +kernel) ?_
              exact W.iret (v := (-1)) hx hb hr (fun t9_ ht hW => ⟨⟨(-1), (), rfl, trivial, by rw [ht]; exact hP, hD⟩, hS.F ht⟩) hS.2.2 dX12_need_68
            · have t_55 : (wv).toInt = 2 := toI_nne c_55 rfl (by decide)
              refine lv_aload_n hx hb dX12_need_58 rfl (lv_at hl 0 rfl) ?_
              refine va_get (D := (dC, dI)) (ci := 12) (v := .ref (a 71)) (C := RX12) (T := TX12) (N := 163) (fs := fM (vS a (fT vi 0 0) vj)) hx hb hts iwsRX12_need_in12 hown hK hP 0 rfl rfl 120 (by decide) (hts (.fieldLink RX12 236 "OptimaWorksModel" "needKind" "[I") (by decide +kernel)) (fun _ h9 => h9) rfl dX12_need_59 ?_
              refine lv_iload_n hx hb dX12_need_62 rfl (lv_at hl 1 rfl) ?_
              refine va_iald (cA := k 71) (n := 28) (f := (vF 71)) hx hb hK hP 72 71 (WR_get 71 (by decide)) (TR_get 71 (by decide)) (vp_in_iff.mpr (by omega)) dX12_need_63 ?_
              refine lv_goto (tgt := 68) hx hb dX12_need_64 (by decide) ?_
              refine W.widen (k := 0) (n := 0) (by decide +kernel) (by decide +kernel) ?_
              exact W.iret (v := ((vF 71) (iv).toNatClampNeg)) hx hb hr (fun t9_ ht hW => ⟨⟨((vF 71) (iv).toNatClampNeg), (), rfl, trivial, by rw [ht]; exact hP, hD⟩, hS.F ht⟩) hS.2.2 dX12_need_68
          · have t_41 : (wv).toInt = 1 := toI_nne c_41 rfl (by decide)
            refine lv_aload_n hx hb dX12_need_44 rfl (lv_at hl 0 rfl) ?_
            refine va_get (D := (dC, dI)) (ci := 12) (v := .ref (a 72)) (C := RX12) (T := TX12) (N := 163) (fs := fM (vS a (fT vi 0 0) vj)) hx hb hts iwsRX12_need_in12 hown hK hP 0 rfl rfl 121 (by decide) (hts (.fieldLink RX12 239 "OptimaWorksModel" "needOf" "[I") (by decide +kernel)) (fun _ h9 => h9) rfl dX12_need_45 ?_
            refine lv_iload_n hx hb dX12_need_48 rfl (lv_at hl 1 rfl) ?_
            refine va_iald (cA := k 72) (n := 28) (f := (vF 72)) hx hb hK hP 73 72 (WR_get 72 (by decide)) (TR_get 72 (by decide)) (vp_in_iff.mpr (by omega)) dX12_need_49 ?_
            refine lv_goto (tgt := 68) hx hb dX12_need_50 (by decide) ?_
            refine W.widen (k := 0) (n := 0) (by decide +kernel) (by decide +kernel) ?_
            exact W.iret (v := ((vF 72) (iv).toNatClampNeg)) hx hb hr (fun t9_ ht hW => ⟨⟨((vF 72) (iv).toNatClampNeg), (), rfl, trivial, by rw [ht]; exact hP, hD⟩, hS.F ht⟩) hS.2.2 dX12_need_68
        · have t_27 : (wv).toInt = 0 := toI_nne c_27 rfl (by decide)
          refine lv_aload_n hx hb dX12_need_30 rfl (lv_at hl 0 rfl) ?_
          refine va_get (D := (dC, dI)) (ci := 12) (v := .ref (a 73)) (C := RX12) (T := TX12) (N := 163) (fs := fM (vS a (fT vi 0 0) vj)) hx hb hts iwsRX12_need_in12 hown hK hP 0 rfl rfl 122 (by decide) (hts (.fieldLink RX12 242 "OptimaWorksModel" "needKept" "[I") (by decide +kernel)) (fun _ h9 => h9) rfl dX12_need_31 ?_
          refine lv_iload_n hx hb dX12_need_34 rfl (lv_at hl 1 rfl) ?_
          refine va_iald (cA := k 73) (n := 28) (f := (vF 73)) hx hb hK hP 74 73 (WR_get 73 (by decide)) (TR_get 73 (by decide)) (vp_in_iff.mpr (by omega)) dX12_need_35 ?_
          refine lv_goto (tgt := 68) hx hb dX12_need_36 (by decide) ?_
          refine W.widen (k := 0) (n := 0) (by decide +kernel) (by decide +kernel) ?_
          exact W.iret (v := ((vF 73) (iv).toNatClampNeg)) hx hb hr (fun t9_ ht hW => ⟨⟨((vF 73) (iv).toNatClampNeg), (), rfl, trivial, by rw [ht]; exact hP, hD⟩, hS.F ht⟩) hS.2.2 dX12_need_68
      · have t_21 : ¬ (iv).toInt < ((nd : Nat) : Int) := toI_nlt c_21 rfl (nI_toInt (by omega))
        refine lv_iconst (v := (-1)) hx hb dX12_need_24 (by decide) ?_
        refine W.widen (k := 0) (n := 0) (by decide +kernel) (by decide +kernel) ?_
        exact W.iret (v := (-1)) hx hb hr (fun t9_ ht hW => ⟨⟨(-1), (), rfl, trivial, by rw [ht]; exact hP, hD⟩, hS.F ht⟩) hS.2.2 dX12_need_25
end
section
theorem natI_of {x : Int32} (h : 0 ≤ x.toInt) : x = nI x.toInt.natAbs := by
  have h1 := Int32.toInt_lt x
  refine Int32.toInt_inj.mp ?_
  rw [nI_toInt (by omega)]; omega
theorem natI_neg {x : Int32} (h : x.toInt < 0) (h2 : -2147483648 < x.toInt) : -x = nI x.toInt.natAbs := by
  refine Int32.toInt_inj.mp ?_
  rw [nI_toInt (by omega), Int32.toInt_neg, Int.bmod_eq_of_le (by omega) (by omega)]; omega
theorem div9 {u h : Nat} (hh : 0 < h) (h9 : ¬ ((u / h : Nat) : Int) ≤ 9) : h * 10 ≤ u := by
  have h1 : 10 ≤ u / h := by omega
  have := (Nat.le_div_iff_mul_le hh).mp h1
  omega
end
section
theorem hd_yX12_say_RX12 : yX12_say.cls = RX12 ∧ yX12_say.cls ≠ "java/lang/invoke/MethodHandle" ∧ yX12_say.cls ≠ "java/lang/invoke/VarHandle" ∧ (parseMethodDescriptor yX12_say.desc).map (fun d => d.parameters.length) = some 1 := by decide +kernel
theorem hd_yX12_sayNumber_RX12 : yX12_sayNumber.cls = RX12 ∧ yX12_sayNumber.cls ≠ "java/lang/invoke/MethodHandle" ∧ yX12_sayNumber.cls ≠ "java/lang/invoke/VarHandle" ∧ (parseMethodDescriptor yX12_sayNumber.desc).map (fun d => d.parameters.length) = some 1 := by decide +kernel
theorem hd_yX12_sayPart_RX12 : yX12_sayPart.cls = RX12 ∧ yX12_sayPart.cls ≠ "java/lang/invoke/MethodHandle" ∧ yX12_sayPart.cls ≠ "java/lang/invoke/VarHandle" ∧ (parseMethodDescriptor yX12_sayPart.desc).map (fun d => d.parameters.length) = some 2 := by decide +kernel
theorem hd_yX12_sayTerm_RX12 : yX12_sayTerm.cls = RX12 ∧ yX12_sayTerm.cls ≠ "java/lang/invoke/MethodHandle" ∧ yX12_sayTerm.cls ≠ "java/lang/invoke/VarHandle" ∧ (parseMethodDescriptor yX12_sayTerm.desc).map (fun d => d.parameters.length) = some 4 := by decide +kernel
theorem dX12_sayNumber_0 : decode cX12_sayNumber 0 = .ok (.iload_n 1, 1) := dk_27 (by decide +kernel)
theorem dX12_sayNumber_1 : decode cX12_sayNumber 1 = .ok (.ifCond .ge 9, 3) := dk_156 (by decide +kernel)
theorem dX12_sayNumber_4 : decode cX12_sayNumber 4 = .ok (.aload_n 0, 1) := dk_42 (by decide +kernel)
theorem dX12_sayNumber_5 : decode cX12_sayNumber 5 = .ok (.bipush 45, 2) := dk_16 (by decide +kernel)
theorem dX12_sayNumber_7 : decode cX12_sayNumber 7 = .ok (.invokevirtual 936, 3) := dk_182 (by decide +kernel)
theorem dX12_sayNumber_10 : decode cX12_sayNumber 10 = .ok (.iload_n 1, 1) := dk_27 (by decide +kernel)
theorem dX12_sayNumber_11 : decode cX12_sayNumber 11 = .ok (.ifCond .ge 8, 3) := dk_156 (by decide +kernel)
theorem dX12_sayNumber_14 : decode cX12_sayNumber 14 = .ok (.iload_n 1, 1) := dk_27 (by decide +kernel)
theorem dX12_sayNumber_15 : decode cX12_sayNumber 15 = .ok (.ineg, 1) := dk_116 (by decide +kernel)
theorem dX12_sayNumber_16 : decode cX12_sayNumber 16 = .ok (.goto 4, 3) := dk_167 (by decide +kernel)
theorem dX12_sayNumber_19 : decode cX12_sayNumber 19 = .ok (.iload_n 1, 1) := dk_27 (by decide +kernel)
theorem dX12_sayNumber_20 : decode cX12_sayNumber 20 = .ok (.istore_n 2, 1) := dk_61 (by decide +kernel)
theorem dX12_sayNumber_21 : decode cX12_sayNumber 21 = .ok (.iconst 1, 1) := dk_4 (by decide +kernel)
theorem dX12_sayNumber_22 : decode cX12_sayNumber 22 = .ok (.istore_n 3, 1) := dk_62 (by decide +kernel)
theorem dX12_sayNumber_23 : decode cX12_sayNumber 23 = .ok (.iload_n 2, 1) := dk_28 (by decide +kernel)
theorem dX12_sayNumber_24 : decode cX12_sayNumber 24 = .ok (.iload_n 3, 1) := dk_29 (by decide +kernel)
theorem dX12_sayNumber_25 : decode cX12_sayNumber 25 = .ok (.idiv, 1) := dk_108 (by decide +kernel)
theorem dX12_sayNumber_26 : decode cX12_sayNumber 26 = .ok (.bipush 9, 2) := dk_16 (by decide +kernel)
theorem dX12_sayNumber_28 : decode cX12_sayNumber 28 = .ok (.if_icmp .le 11, 3) := dk_164 (by decide +kernel)
theorem dX12_sayNumber_31 : decode cX12_sayNumber 31 = .ok (.iload_n 3, 1) := dk_29 (by decide +kernel)
theorem dX12_sayNumber_32 : decode cX12_sayNumber 32 = .ok (.bipush 10, 2) := dk_16 (by decide +kernel)
theorem dX12_sayNumber_34 : decode cX12_sayNumber 34 = .ok (.imul, 1) := dk_104 (by decide +kernel)
theorem dX12_sayNumber_35 : decode cX12_sayNumber 35 = .ok (.istore_n 3, 1) := dk_62 (by decide +kernel)
theorem dX12_sayNumber_36 : decode cX12_sayNumber 36 = .ok (.goto (-13), 3) := dk_167 (by decide +kernel)
theorem dX12_sayNumber_39 : decode cX12_sayNumber 39 = .ok (.iload_n 3, 1) := dk_29 (by decide +kernel)
theorem dX12_sayNumber_40 : decode cX12_sayNumber 40 = .ok (.ifCond .le 24, 3) := dk_158 (by decide +kernel)
theorem dX12_sayNumber_43 : decode cX12_sayNumber 43 = .ok (.aload_n 0, 1) := dk_42 (by decide +kernel)
theorem dX12_sayNumber_44 : decode cX12_sayNumber 44 = .ok (.bipush 48, 2) := dk_16 (by decide +kernel)
theorem dX12_sayNumber_46 : decode cX12_sayNumber 46 = .ok (.iload_n 2, 1) := dk_28 (by decide +kernel)
theorem dX12_sayNumber_47 : decode cX12_sayNumber 47 = .ok (.iload_n 3, 1) := dk_29 (by decide +kernel)
theorem dX12_sayNumber_48 : decode cX12_sayNumber 48 = .ok (.idiv, 1) := dk_108 (by decide +kernel)
theorem dX12_sayNumber_49 : decode cX12_sayNumber 49 = .ok (.bipush 10, 2) := dk_16 (by decide +kernel)
theorem dX12_sayNumber_51 : decode cX12_sayNumber 51 = .ok (.irem, 1) := dk_112 (by decide +kernel)
theorem dX12_sayNumber_52 : decode cX12_sayNumber 52 = .ok (.iadd, 1) := dk_96 (by decide +kernel)
theorem dX12_sayNumber_53 : decode cX12_sayNumber 53 = .ok (.invokevirtual 936, 3) := dk_182 (by decide +kernel)
theorem dX12_sayNumber_56 : decode cX12_sayNumber 56 = .ok (.iload_n 3, 1) := dk_29 (by decide +kernel)
theorem dX12_sayNumber_57 : decode cX12_sayNumber 57 = .ok (.bipush 10, 2) := dk_16 (by decide +kernel)
theorem dX12_sayNumber_59 : decode cX12_sayNumber 59 = .ok (.idiv, 1) := dk_108 (by decide +kernel)
theorem dX12_sayNumber_60 : decode cX12_sayNumber 60 = .ok (.istore_n 3, 1) := dk_62 (by decide +kernel)
theorem dX12_sayNumber_61 : decode cX12_sayNumber 61 = .ok (.goto (-22), 3) := dk_167 (by decide +kernel)
theorem dX12_sayNumber_64 : decode cX12_sayNumber 64 = .ok (.return_, 1) := dk_177 (by decide +kernel)
def wsRX12_sayNumber : List Cond := .code yX12_sayNumber cX12_sayNumber 4 none :: ([] ++ wsX120 ++ (wsV RX12 936 RX12 yX12_say wsRX12_say))
theorem iwsRX12_sayNumber_in12 : ∀ w ∈ wsX120, w ∈ wsRX12_sayNumber := fun _ h => List.mem_cons_of_mem _ (List.mem_append_left _ (List.mem_append_right _ h))
theorem gwsRX12_sayNumber_0 : GoodIn wsRX12_sayNumber (wsV RX12 936 RX12 yX12_say wsRX12_say) := goodIn_sub (fun _ h => List.mem_cons_of_mem _ (List.mem_append_right _ h)) (gdV (by decide +kernel) gdwsRX12_say)
theorem gdwsRX12_sayNumber : wsRX12_sayNumber.all goodWord = true := gdC rfl (gdA (gdA (by decide +kernel : ([] : List Cond).all goodWord = true) gdwsX120) (gdV (by decide +kernel) gdwsRX12_say))
set_option maxHeartbeats 4000000 in
set_option maxRecDepth 100000 in
/-- sayNumber(v) -/
theorem r_X12_sayNumber (l : Launch) (dC : Nat → ClassId) (dI : Nat → Nat → Nat) (a : Nat → Nat) (k : Nat → ClassId) (h0 : Nat) (vi : Nat → Int32) (vj : Nat → Int64) (vF : Nat → Nat → Int32) (vG : Nat → Nat → Int64) (vI : Int32) (pn : Nat) (hpn : vi 125 = nI pn) (hpn2 : pn ≤ 30000) (hvI : (vI).toInt.natAbs ≤ 1000000) (sz : Nat) : Met l yX12_sayNumber wsRX12_sayNumber ({ frames := 1, cells := 0, slots := 0, locals := 21 }) (va_Pc [.ref h0, .int vI] (fun U => U.heap.size = sz ∧ va_P (dC, dI) vwCl (WR a k h0 vi vj vF vG) U.heap ∧ va_K (dC, dI) vwCl (tX12 k) U ∧ va_D (fun _ => True) (WR a k h0 vi vj vF vG))) (va_Qv (fun (u : (Nat) × (Nat → Int32)) => ((u.1) ≤ 30000)) (fun (u : (Nat) × (Nat → Int32)) t => va_P (dC, dI) vwCl (WR a k h0 (fT vi 125 (nI (u.1))) vj (fT vF 75 (u.2)) vG) t.heap ∧ va_D (va_A (WR a k h0 vi vj vF vG) sz) (WR a k h0 (fT vi 125 (nI (u.1))) vj (fT vF 75 (u.2)) vG)) (va_A (WR a k h0 vi vj vF vG) sz)) 0 0 (va_A (WR a k h0 vi vj vF vG) sz) := by
  refine Met.ofW (cc := cX12_sayNumber) (maxL := 4) (ret := none) (by decide) rfl ?_
  intro p e s m args below meth c s₁ B hml hv
  obtain ⟨rfl, hsz, hP, hK, hD0⟩ := hv
  have hx := B.exec
  have hb := B.bytes
  have hr := B.returns
  have hts := atoms_spec (ws := wsRX12_sayNumber) B.pre
  have hown : s.vm.findClass RX12 = some m.cls := findClass_of_methodNamed B.named
  have hlocks := B.notSynchronized
  subst hsz
  have hD := hD0.self (sz := s.heap.size)
  generalize hAe : va_A (WR a k h0 vi vj vF vG) s.heap.size = A at hD ⊢
  have hA : ∀ q : Nat, s.heap.size ≤ q → A q := fun q h => by rw [← hAe]; exact Or.inr h
  have hS : va_S A s.heap s.heap [] := va_S.rf
  have hl := lv_entry ([.ref h0, .int vI]) (n := 4) (Nat.le_of_ble_eq_true rfl)
  rw [lg_entry_eq]
  generalize (lg_sl ([.ref h0, .int vI]) ++ List.replicate (4 - (lg_sl ([.ref h0, .int vI])).length) Slot.unset).toArray = ls at hl ⊢
  have hl : lv_has ls 4 [(0, .ref h0), (1, .int vI)] := hl
  refine lv_iload_n hx hb dX12_sayNumber_0 rfl (lv_at hl 1 rfl) ?_
  refine W.cut (pc := 10) (fun H locs ls stk => ∃ (j1_i125 : Nat) (j1_F75 : Nat → Int32), (j1_i125 ≤ 30000) ∧  stk = [] ∧ va_P (dC, dI) vwCl (WR a k h0 (fT vi 125 (nI j1_i125)) vj (fT vF 75 j1_F75) vG) H ∧ va_D A (WR a k h0 (fT vi 125 (nI j1_i125)) vj (fT vF 75 j1_F75) vG) ∧ va_S A s.heap H locs ∧ lv_has ls 4 [(0, .ref h0), (1, .int vI)]) (fun join1 => ?_) ?_
  · refine lv_if_ge (tgt := 10) hx hb dX12_sayNumber_1 (by decide) (fun c_1 => ?_) (fun c_1 => ?_)
    · have t_1 : (vI).toInt ≥ 0 := toI_ge c_1 rfl (by decide)
      have e9 : fT vi 125 (nI pn) = vi := by funext q9; by_cases h9_125 : q9 = 125; (subst h9_125; exact (fT_eq _ _ _).trans (Eq.trans (by first | with_reducible rfl | with_reducible assumption | (symm; with_reducible assumption) | rfl | assumption | (symm; assumption) | (subst_vars; rfl)) (Eq.refl _).symm)); exact (fT_ne _ _ h9_125).trans (Eq.refl _).symm
      have hP : va_P (dC, dI) vwCl (WR a k h0 (fT vi 125 (nI pn)) vj vF vG) s.heap := by rw [e9]; exact hP
      have hD : va_D A (WR a k h0 (fT vi 125 (nI pn)) vj vF vG) := by rw [e9]; exact hD
      clear e9
      have e9 : fT vF 75 (vF 75) = vF := by funext q9; by_cases h9_75 : q9 = 75; (subst h9_75; exact (fT_eq _ _ _).trans (Eq.trans (by first | with_reducible rfl | with_reducible assumption | (symm; with_reducible assumption) | rfl | assumption | (symm; assumption) | (subst_vars; rfl)) (Eq.refl _).symm)); exact (fT_ne _ _ h9_75).trans (Eq.refl _).symm
      have hP : va_P (dC, dI) vwCl (WR a k h0 (fT vi 125 (nI pn)) vj (fT vF 75 (vF 75)) vG) s.heap := by rw [e9]; exact hP
      have hD : va_D A (WR a k h0 (fT vi 125 (nI pn)) vj (fT vF 75 (vF 75)) vG) := by rw [e9]; exact hD
      clear e9
      have hl : lv_has _ _ ([(0, .ref h0), (1, .int vI)]) := lv_sub hl [0, 1] rfl
      exact join1 _ _ _ _ ⟨pn, (vF 75), by first | assumption | omega, rfl, hP, hD, hS, hl⟩
    · have t_1 : ¬ (vI).toInt ≥ 0 := toI_nge c_1 rfl (by decide)
      refine lv_aload_n hx hb dX12_sayNumber_4 rfl (lv_at hl 0 rfl) ?_
      refine lv_bipush (v := 45) hx hb dX12_sayNumber_5 (by decide) ?_
      have hFc := allFree hD hS hA
      refine va_callv (va_runV (As := [.int 45]) (rest := []) ⟨hx, hb, hml, hown, hts⟩ (r_X12_say l dC dI a k h0 vi vj vF vG 45 pn hpn (by first | with_reducible assumption | decide | omega | rfl | assumption) s.heap.size) (cwV 1 hts gwsRX12_sayNumber_0 rfl rfl rfl hd_yX12_say_RX12 (by decide +kernel)) (fz_pre (va_recv hK hP (ci := 12) (q0 := 0) rfl rfl) hP hK hD) rfl rfl hl.1 rfl (lv_room (Nat.le_of_ble_eq_true rfl)) dX12_sayNumber_7 (by decide +kernel)) hS (fun q _ h => hFc q h) hFc (fun u t9_ H locs ht hvm hw9 hB9 hz1 hk1 hS => ?_)
      revert u
      refine fz_p2 ?_
      intro p27 f757 hw9 hB9
      try dsimp only at hw9 hB9
      have hP : va_P (dC, dI) vwCl (WR a k h0 (fT vi 125 (nI p27)) vj (fT vF 75 f757) vG) H := fz_P ht hB9.1
      have hD : va_D A (WR a k h0 (fT vi 125 (nI p27)) vj (fT vF 75 f757) vG) := hB9.2.weaken (fun _ q _ h => hFc q.1 h)
      revert hw9
      refine fz_a3 ?_
      intro f7_0 f7_1 f7_2
      have hl : lv_has _ _ ([(0, .ref h0), (1, .int vI)]) := lv_sub hl [0, 1] rfl
      exact join1 _ _ _ _ ⟨p27, f757, by first | assumption | omega, rfl, hP, hD, hS, hl⟩
  · rintro H locs ls stk ⟨j1_i125, j1_F75, hj1_i125, rfl, hP, hD, hS, hl⟩
    refine lv_iload_n hx hb dX12_sayNumber_10 rfl (lv_at hl 1 rfl) ?_
    refine W.cut (pc := 20) (fun H locs ls stk => ∃ (un : Nat), (un ≤ 1000000) ∧  stk = [.int (nI un)] ∧ va_P (dC, dI) vwCl (WR a k h0 (fT vi 125 (nI j1_i125)) vj (fT vF 75 j1_F75) vG) H ∧ va_D A (WR a k h0 (fT vi 125 (nI j1_i125)) vj (fT vF 75 j1_F75) vG) ∧ va_S A s.heap H locs ∧ lv_has ls 4 [(0, .ref h0)]) (fun join2 => ?_) ?_
    · refine lv_if_ge (tgt := 19) hx hb dX12_sayNumber_11 (by decide) (fun c_11 => ?_) (fun c_11 => ?_)
      · have t_11 : (vI).toInt ≥ 0 := toI_ge c_11 rfl (by decide)
        refine lv_iload_n hx hb dX12_sayNumber_19 rfl (lv_at hl 1 rfl) ?_
        refine lv_topi (fun y1 hy1 => ?_)
        obtain rfl : (nI ((vI).toInt.natAbs)) = y1 := (hy1.trans (natI_of (by omega))).symm
        have hl : lv_has _ _ ([(0, .ref h0)]) := lv_sub hl [0] rfl
        exact join2 _ _ _ _ ⟨((vI).toInt.natAbs), by omega, rfl, hP, hD, hS, hl⟩
      · have t_11 : ¬ (vI).toInt ≥ 0 := toI_nge c_11 rfl (by decide)
        refine lv_iload_n hx hb dX12_sayNumber_14 rfl (lv_at hl 1 rfl) ?_
        refine lv_ineg hx hb dX12_sayNumber_15 ?_
        refine lv_topi (fun y2 hy2 => ?_)
        obtain rfl : (nI ((vI).toInt.natAbs)) = y2 := (hy2.trans (natI_neg (by omega) (by omega))).symm
        refine lv_goto (tgt := 20) hx hb dX12_sayNumber_16 (by decide) ?_
        have hl : lv_has _ _ ([(0, .ref h0)]) := lv_sub hl [0] rfl
        exact join2 _ _ _ _ ⟨((vI).toInt.natAbs), by omega, rfl, hP, hD, hS, hl⟩
    · rintro H locs ls stk ⟨un, hun, rfl, hP, hD, hS, hl⟩
      refine lv_istore_n hx hb dX12_sayNumber_20 rfl hl (by decide) rfl (fun ls (hl : lv_has ls _ ([(2, .int (nI un)), (0, .ref h0)])) => ?_)
      refine lv_iconst (v := 1) hx hb dX12_sayNumber_21 (by decide) ?_
      refine lv_istore_n hx hb dX12_sayNumber_22 rfl hl (by decide) rfl (fun ls (hl : lv_has ls _ ([(3, .int 1), (2, .int (nI un)), (0, .ref h0)])) => ?_)
      have hl : lv_has _ _ ([(0, .ref h0), (2, .int (nI un)), (3, .int (nI 1))]) := lv_sub hl [2, 1, 0] rfl
      refine (fun (loop : ∀ (n9 : Nat) (hn : Nat) (H : Heap) (locs : List Loc) (ls : Array Slot), (1 ≤ hn ∧ (hn = 1 ∨ hn ≤ un)) →  (un + 2 < hn + n9) → va_P (dC, dI) vwCl (WR a k h0 (fT vi 125 (nI j1_i125)) vj (fT vF 75 j1_F75) vG) H → va_D A (WR a k h0 (fT vi 125 (nI j1_i125)) vj (fT vF 75 j1_F75) vG) → va_S A s.heap H locs → lv_has ls 4 [(0, .ref h0), (2, .int (nI un)), (3, .int (nI hn))] → W p l e _ s m _ below meth c H locs 0 0 _ (F0 m 23 ls [])) => loop (un + 2) 1 _ _ _ (by omega) (by omega) hP hD hS hl) ?_
      intro n9
      induction n9 with
      | zero => intro hn H locs ls hhn hf9; exact False.elim (by omega)
      | succ n9 ih23 =>
        intro hn H locs ls hhn hf23 hP hD hS hl
        have hdu : un / hn ≤ un := Nat.div_le_self _ _
        refine lv_iload_n hx hb dX12_sayNumber_23 rfl (lv_at hl 1 rfl) ?_
        refine lv_iload_n hx hb dX12_sayNumber_24 rfl (lv_at hl 2 rfl) ?_
        refine lv_idiv hx hb dX12_sayNumber_25 (by exact nI_ne0 (by omega) (by omega)) ?_
        refine lv_topi (fun y3 hy3 => ?_)
        obtain rfl : (nI (un / hn)) = y3 := (hy3.trans (pk_div (a := un) (d := hn) (by omega) (by omega) (by omega))).symm
        refine lv_bipush (v := 9) hx hb dX12_sayNumber_26 (by decide) ?_
        refine lv_icmp_le (tgt := 39) hx hb dX12_sayNumber_28 (by decide) (fun c_28 => ?_) (fun c_28 => ?_)
        · have t_28 : (((un / hn) : Nat) : Int) ≤ 9 := toI_le c_28 (nI_toInt (by omega)) (by decide)
          have hl : lv_has _ _ ([(0, .ref h0), (2, .int (nI un)), (3, .int (nI hn))]) := lv_sub hl [0, 1, 2] rfl
          refine (fun (loop : ∀ (n9 : Nat) (hd : Nat) (x3_i125 : Nat) (x3_F75 : Nat → Int32) (H : Heap) (locs : List Loc) (ls : Array Slot), (hd ≤ 1000000) → (x3_i125 ≤ 30000) →  (hd < n9) → va_P (dC, dI) vwCl (WR a k h0 (fT vi 125 (nI x3_i125)) vj (fT vF 75 x3_F75) vG) H → va_D A (WR a k h0 (fT vi 125 (nI x3_i125)) vj (fT vF 75 x3_F75) vG) → va_S A s.heap H locs → lv_has ls 4 [(0, .ref h0), (2, .int (nI un)), (3, .int (nI hd))] → W p l e _ s m _ below meth c H locs 0 0 _ (F0 m 39 ls [])) => loop (hn + 1) hn j1_i125 j1_F75 _ _ _ (by omega) (by first | with_reducible assumption | omega | assumption) (by omega) hP hD hS hl) ?_
          intro n9
          induction n9 with
          | zero => intro hd x3_i125 x3_F75 H locs ls hhd hx3_i125 hf9; exact False.elim (by omega)
          | succ n9 ih39_1 =>
            intro hd x3_i125 x3_F75 H locs ls hhd hx3_i125 hf39_1 hP hD hS hl
            refine lv_iload_n hx hb dX12_sayNumber_39 rfl (lv_at hl 2 rfl) ?_
            refine lv_if_le (tgt := 64) hx hb dX12_sayNumber_40 (by decide) (fun c_40 => ?_) (fun c_40 => ?_)
            · have t_40 : ((hd : Nat) : Int) ≤ 0 := toI_le c_40 (nI_toInt (by omega)) (by decide)
              refine W.widen (k := 0) (n := 0) (by decide +kernel) (by decide +kernel) ?_
              exact W.vret hx hb hr (fun t9_ ht hW => ⟨⟨(x3_i125, x3_F75), rfl, by (try dsimp only); first | assumption | omega, by rw [ht]; exact hP, hD⟩, hS.F ht⟩) hS.2.2 dX12_sayNumber_64
            · have t_40 : ¬ ((hd : Nat) : Int) ≤ 0 := toI_nle c_40 (nI_toInt (by omega)) (by decide)
              refine lv_aload_n hx hb dX12_sayNumber_43 rfl (lv_at hl 0 rfl) ?_
              refine lv_bipush (v := 48) hx hb dX12_sayNumber_44 (by decide) ?_
              have hud : un / hd ≤ un := Nat.div_le_self _ _
              refine lv_iload_n hx hb dX12_sayNumber_46 rfl (lv_at hl 1 rfl) ?_
              refine lv_iload_n hx hb dX12_sayNumber_47 rfl (lv_at hl 2 rfl) ?_
              refine lv_idiv hx hb dX12_sayNumber_48 (by exact nI_ne0 (by omega) (by omega)) ?_
              refine lv_topi (fun y4 hy4 => ?_)
              obtain rfl : (nI (un / hd)) = y4 := (hy4.trans (pk_div (a := un) (d := hd) (by omega) (by omega) (by omega))).symm
              refine lv_bipush (v := 10) hx hb dX12_sayNumber_49 (by decide) ?_
              refine lv_irem hx hb dX12_sayNumber_51 (by decide) ?_
              refine lv_topi (fun y5 hy5 => ?_)
              obtain rfl : (nI ((un / hd) % 10)) = y5 := (hy5.trans (pk_rem (a := (un / hd)) (d := 10) (by omega) (by omega) (by omega))).symm
              refine lv_iadd hx hb dX12_sayNumber_52 ?_
              refine lv_topi (fun y6 hy6 => ?_)
              obtain rfl : (nI (48 + ((un / hd) % 10))) = y6 := (hy6.trans (nI_add 48 ((un / hd) % 10))).symm
              have hFc := allFree hD hS hA
              refine va_callv (va_runV (As := [.int (nI (48 + ((un / hd) % 10)))]) (rest := []) ⟨hx, hb, hml, hown, hts⟩ (r_X12_say l dC dI a k h0 (fT vi 125 (nI x3_i125)) vj (fT vF 75 x3_F75) vG (nI (48 + ((un / hd) % 10))) x3_i125 rfl (by first | with_reducible assumption | decide | omega | rfl | assumption) H.size) (cwV 1 hts gwsRX12_sayNumber_0 rfl rfl rfl hd_yX12_say_RX12 (by decide +kernel)) (fz_pre (va_recv hK hP (ci := 12) (q0 := 0) rfl rfl) hP hK hD) rfl rfl hl.1 rfl (lv_room (Nat.le_of_ble_eq_true rfl)) dX12_sayNumber_53 (by decide +kernel)) hS (fun q _ h => hFc q h) hFc (fun u t9_ H locs ht hvm hw9 hB9 hz1 hk1 hS => ?_)
              revert u
              refine fz_p2 ?_
              intro p253 f7553 hw9 hB9
              try dsimp only at hw9 hB9
              have hP : va_P (dC, dI) vwCl (WR a k h0 (fT (fT vi 125 (nI x3_i125)) 125 (nI p253)) vj (fT (fT vF 75 x3_F75) 75 f7553) vG) H := fz_P ht hB9.1
              have hD : va_D A (WR a k h0 (fT (fT vi 125 (nI x3_i125)) 125 (nI p253)) vj (fT (fT vF 75 x3_F75) 75 f7553) vG) := hB9.2.weaken (fun _ q _ h => hFc q.1 h)
              have e9 : fT vi 125 (nI p253) = fT (fT vi 125 (nI x3_i125)) 125 (nI p253) := (fT_sm _ _ _ _).symm
              rw [← e9] at hP hD
              clear e9
              have e9 : fT vF 75 f7553 = fT (fT vF 75 x3_F75) 75 f7553 := (fT_sm _ _ _ _).symm
              rw [← e9] at hP hD
              clear e9
              have hP : va_P (dC, dI) vwCl (WR a k h0 (fT vi 125 (nI p253)) vj (fT vF 75 f7553) vG) H := hP
              have hD : va_D A (WR a k h0 (fT vi 125 (nI p253)) vj (fT vF 75 f7553) vG) := hD
              revert hw9
              refine fz_a3 ?_
              intro f53_0 f53_1 f53_2
              refine lv_iload_n hx hb dX12_sayNumber_56 rfl (lv_at hl 2 rfl) ?_
              refine lv_bipush (v := 10) hx hb dX12_sayNumber_57 (by decide) ?_
              refine lv_idiv hx hb dX12_sayNumber_59 (by decide) ?_
              refine lv_topi (fun y7 hy7 => ?_)
              obtain rfl : (nI (hd / 10)) = y7 := (hy7.trans (pk_div (a := hd) (d := 10) (by omega) (by omega) (by omega))).symm
              refine lv_istore_n hx hb dX12_sayNumber_60 rfl hl (by decide) rfl (fun ls (hl : lv_has ls _ ([(3, .int (nI (hd / 10))), (0, .ref h0), (2, .int (nI un))])) => ?_)
              refine lv_goto (tgt := 39) hx hb dX12_sayNumber_61 (by decide) ?_
              have hl : lv_has _ _ ([(0, .ref h0), (2, .int (nI un)), (3, .int (nI (hd / 10)))]) := lv_sub hl [1, 2, 0] rfl
              exact ih39_1 (hd / 10) p253 f7553 _ _ _ (by omega) (by first | with_reducible assumption | omega | assumption) (by omega) hP hD hS hl
        · have t_28 : ¬ (((un / hn) : Nat) : Int) ≤ 9 := toI_nle c_28 (nI_toInt (by omega)) (by decide)
          refine lv_iload_n hx hb dX12_sayNumber_31 rfl (lv_at hl 2 rfl) ?_
          refine lv_bipush (v := 10) hx hb dX12_sayNumber_32 (by decide) ?_
          refine lv_imul hx hb dX12_sayNumber_34 ?_
          refine lv_topi (fun y8 hy8 => ?_)
          obtain rfl : (nI (hn * 10)) = y8 := (hy8.trans (pk_mul hn 10)).symm
          refine lv_istore_n hx hb dX12_sayNumber_35 rfl hl (by decide) rfl (fun ls (hl : lv_has ls _ ([(3, .int (nI (hn * 10))), (0, .ref h0), (2, .int (nI un))])) => ?_)
          refine lv_goto (tgt := 23) hx hb dX12_sayNumber_36 (by decide) ?_
          have hl : lv_has _ _ ([(0, .ref h0), (2, .int (nI un)), (3, .int (nI (hn * 10)))]) := lv_sub hl [1, 2, 0] rfl
          exact ih23 (hn * 10) _ _ _ (by (have h9 := div9 (by omega) t_28); omega) (by omega) hP hD hS hl
theorem dX12_sayPart_0 : decode cX12_sayPart 0 = .ok (.aload_n 0, 1) := dk_42 (by decide +kernel)
theorem dX12_sayPart_1 : decode cX12_sayPart 1 = .ok (.iload_n 1, 1) := dk_27 (by decide +kernel)
theorem dX12_sayPart_2 : decode cX12_sayPart 2 = .ok (.invokevirtual 955, 3) := dk_182 (by decide +kernel)
theorem dX12_sayPart_5 : decode cX12_sayPart 5 = .ok (.iload_n 2, 1) := dk_28 (by decide +kernel)
theorem dX12_sayPart_6 : decode cX12_sayPart 6 = .ok (.iconst 1, 1) := dk_4 (by decide +kernel)
theorem dX12_sayPart_7 : decode cX12_sayPart 7 = .ok (.if_icmp .ne 4, 3) := dk_160 (by decide +kernel)
theorem dX12_sayPart_10 : decode cX12_sayPart 10 = .ok (.return_, 1) := dk_177 (by decide +kernel)
theorem dX12_sayPart_11 : decode cX12_sayPart 11 = .ok (.aload_n 0, 1) := dk_42 (by decide +kernel)
theorem dX12_sayPart_12 : decode cX12_sayPart 12 = .ok (.bipush 47, 2) := dk_16 (by decide +kernel)
theorem dX12_sayPart_14 : decode cX12_sayPart 14 = .ok (.invokevirtual 936, 3) := dk_182 (by decide +kernel)
theorem dX12_sayPart_17 : decode cX12_sayPart 17 = .ok (.aload_n 0, 1) := dk_42 (by decide +kernel)
theorem dX12_sayPart_18 : decode cX12_sayPart 18 = .ok (.iload_n 2, 1) := dk_28 (by decide +kernel)
theorem dX12_sayPart_19 : decode cX12_sayPart 19 = .ok (.invokevirtual 955, 3) := dk_182 (by decide +kernel)
theorem dX12_sayPart_22 : decode cX12_sayPart 22 = .ok (.return_, 1) := dk_177 (by decide +kernel)
def wsRX12_sayPart : List Cond := .code yX12_sayPart cX12_sayPart 3 none :: ([] ++ wsX120 ++ (wsV RX12 955 RX12 yX12_sayNumber wsRX12_sayNumber) ++ (wsV RX12 936 RX12 yX12_say wsRX12_say))
theorem iwsRX12_sayPart_in12 : ∀ w ∈ wsX120, w ∈ wsRX12_sayPart := fun _ h => List.mem_cons_of_mem _ (List.mem_append_left _ (List.mem_append_left _ (List.mem_append_right _ h)))
theorem gwsRX12_sayPart_0 : GoodIn wsRX12_sayPart (wsV RX12 955 RX12 yX12_sayNumber wsRX12_sayNumber) := goodIn_sub (fun _ h => List.mem_cons_of_mem _ (List.mem_append_left _ (List.mem_append_right _ h))) (gdV (by decide +kernel) gdwsRX12_sayNumber)
theorem gwsRX12_sayPart_1 : GoodIn wsRX12_sayPart (wsV RX12 936 RX12 yX12_say wsRX12_say) := goodIn_sub (fun _ h => List.mem_cons_of_mem _ (List.mem_append_right _ h)) (gdV (by decide +kernel) gdwsRX12_say)
theorem gdwsRX12_sayPart : wsRX12_sayPart.all goodWord = true := gdC rfl (gdA (gdA (gdA (by decide +kernel : ([] : List Cond).all goodWord = true) gdwsX120) (gdV (by decide +kernel) gdwsRX12_sayNumber)) (gdV (by decide +kernel) gdwsRX12_say))
set_option maxHeartbeats 4000000 in
set_option maxRecDepth 100000 in
/-- sayPart(a, u) -/
theorem r_X12_sayPart (l : Launch) (dC : Nat → ClassId) (dI : Nat → Nat → Nat) (a : Nat → Nat) (k : Nat → ClassId) (h0 : Nat) (vi : Nat → Int32) (vj : Nat → Int64) (vF : Nat → Nat → Int32) (vG : Nat → Nat → Int64) (aI : Int32) (uI : Int32) (pn : Nat) (hpn : vi 125 = nI pn) (hpn2 : pn ≤ 30000) (hbaI : (aI).toInt.natAbs ≤ 1000000) (hbuI : (uI).toInt.natAbs ≤ 1000000) (sz : Nat) : Met l yX12_sayPart wsRX12_sayPart ({ frames := 2, cells := 0, slots := 0, locals := 44 }) (va_Pc [.ref h0, .int aI, .int uI] (fun U => U.heap.size = sz ∧ va_P (dC, dI) vwCl (WR a k h0 vi vj vF vG) U.heap ∧ va_K (dC, dI) vwCl (tX12 k) U ∧ va_D (fun _ => True) (WR a k h0 vi vj vF vG))) (va_Qv (fun (u : (Nat) × (Nat → Int32)) => ((u.1) ≤ 30000)) (fun (u : (Nat) × (Nat → Int32)) t => va_P (dC, dI) vwCl (WR a k h0 (fT vi 125 (nI (u.1))) vj (fT vF 75 (u.2)) vG) t.heap ∧ va_D (va_A (WR a k h0 vi vj vF vG) sz) (WR a k h0 (fT vi 125 (nI (u.1))) vj (fT vF 75 (u.2)) vG)) (va_A (WR a k h0 vi vj vF vG) sz)) 0 0 (va_A (WR a k h0 vi vj vF vG) sz) := by
  refine Met.ofW (cc := cX12_sayPart) (maxL := 3) (ret := none) (by decide) rfl ?_
  intro p e s m args below meth c s₁ B hml hv
  obtain ⟨rfl, hsz, hP, hK, hD0⟩ := hv
  have hx := B.exec
  have hb := B.bytes
  have hr := B.returns
  have hts := atoms_spec (ws := wsRX12_sayPart) B.pre
  have hown : s.vm.findClass RX12 = some m.cls := findClass_of_methodNamed B.named
  have hlocks := B.notSynchronized
  subst hsz
  have hD := hD0.self (sz := s.heap.size)
  generalize hAe : va_A (WR a k h0 vi vj vF vG) s.heap.size = A at hD ⊢
  have hA : ∀ q : Nat, s.heap.size ≤ q → A q := fun q h => by rw [← hAe]; exact Or.inr h
  have hS : va_S A s.heap s.heap [] := va_S.rf
  have hl := lv_entry ([.ref h0, .int aI, .int uI]) (n := 3) (Nat.le_of_ble_eq_true rfl)
  rw [lg_entry_eq]
  generalize (lg_sl ([.ref h0, .int aI, .int uI]) ++ List.replicate (3 - (lg_sl ([.ref h0, .int aI, .int uI])).length) Slot.unset).toArray = ls at hl ⊢
  have hl : lv_has ls 3 [(0, .ref h0), (1, .int aI), (2, .int uI)] := hl
  refine lv_aload_n hx hb dX12_sayPart_0 rfl (lv_at hl 0 rfl) ?_
  refine lv_iload_n hx hb dX12_sayPart_1 rfl (lv_at hl 1 rfl) ?_
  have hFc := allFree hD hS hA
  refine va_callv (va_runV (As := [.int aI]) (rest := []) ⟨hx, hb, hml, hown, hts⟩ (r_X12_sayNumber l dC dI a k h0 vi vj vF vG aI pn hpn (by first | with_reducible assumption | decide | omega | rfl | assumption) (hbaI) s.heap.size) (cwV 1 hts gwsRX12_sayPart_0 rfl rfl rfl hd_yX12_sayNumber_RX12 (by decide +kernel)) (fz_pre (va_recv hK hP (ci := 12) (q0 := 0) rfl rfl) hP hK hD) rfl rfl hl.1 rfl (lv_room (Nat.le_of_ble_eq_true rfl)) dX12_sayPart_2 (by decide +kernel)) hS (fun q _ h => hFc q h) hFc (fun u t9_ H locs ht hvm hw9 hB9 hz1 hk1 hS => ?_)
  revert u
  refine fz_p2 ?_
  intro p22 f752 hw9 hB9
  try dsimp only at hw9 hB9
  have hP : va_P (dC, dI) vwCl (WR a k h0 (fT vi 125 (nI p22)) vj (fT vF 75 f752) vG) H := fz_P ht hB9.1
  have hD : va_D A (WR a k h0 (fT vi 125 (nI p22)) vj (fT vF 75 f752) vG) := hB9.2.weaken (fun _ q _ h => hFc q.1 h)
  have f2_0 := hw9
  try dsimp only at f2_0
  refine lv_iload_n hx hb dX12_sayPart_5 rfl (lv_at hl 2 rfl) ?_
  refine lv_iconst (v := 1) hx hb dX12_sayPart_6 (by decide) ?_
  refine lv_icmp_ne (tgt := 11) hx hb dX12_sayPart_7 (by decide) (fun c_7 => ?_) (fun c_7 => ?_)
  · have t_7 : (uI).toInt ≠ 1 := toI_ne c_7 rfl (by decide)
    refine lv_aload_n hx hb dX12_sayPart_11 rfl (lv_at hl 0 rfl) ?_
    refine lv_bipush (v := 47) hx hb dX12_sayPart_12 (by decide) ?_
    have hFc := allFree hD hS hA
    refine va_callv (va_runV (As := [.int 47]) (rest := []) ⟨hx, hb, hml, hown, hts⟩ (r_X12_say l dC dI a k h0 (fT vi 125 (nI p22)) vj (fT vF 75 f752) vG 47 p22 rfl (by first | with_reducible assumption | decide | omega | rfl | assumption) H.size) (cwV 1 hts gwsRX12_sayPart_1 rfl rfl rfl hd_yX12_say_RX12 (by decide +kernel)) (fz_pre (va_recv hK hP (ci := 12) (q0 := 0) rfl rfl) hP hK hD) rfl rfl hl.1 rfl (lv_room (Nat.le_of_ble_eq_true rfl)) dX12_sayPart_14 (by decide +kernel)) hS (fun q _ h => hFc q h) hFc (fun u t9_ H locs ht hvm hw9 hB9 hz1 hk1 hS => ?_)
    revert u
    refine fz_p2 ?_
    intro p214 f7514 hw9 hB9
    try dsimp only at hw9 hB9
    have hP : va_P (dC, dI) vwCl (WR a k h0 (fT (fT vi 125 (nI p22)) 125 (nI p214)) vj (fT (fT vF 75 f752) 75 f7514) vG) H := fz_P ht hB9.1
    have hD : va_D A (WR a k h0 (fT (fT vi 125 (nI p22)) 125 (nI p214)) vj (fT (fT vF 75 f752) 75 f7514) vG) := hB9.2.weaken (fun _ q _ h => hFc q.1 h)
    have e9 : fT vi 125 (nI p214) = fT (fT vi 125 (nI p22)) 125 (nI p214) := (fT_sm _ _ _ _).symm
    rw [← e9] at hP hD
    clear e9
    have e9 : fT vF 75 f7514 = fT (fT vF 75 f752) 75 f7514 := (fT_sm _ _ _ _).symm
    rw [← e9] at hP hD
    clear e9
    have hP : va_P (dC, dI) vwCl (WR a k h0 (fT vi 125 (nI p214)) vj (fT vF 75 f7514) vG) H := hP
    have hD : va_D A (WR a k h0 (fT vi 125 (nI p214)) vj (fT vF 75 f7514) vG) := hD
    revert hw9
    refine fz_a3 ?_
    intro f14_0 f14_1 f14_2
    refine lv_aload_n hx hb dX12_sayPart_17 rfl (lv_at hl 0 rfl) ?_
    refine lv_iload_n hx hb dX12_sayPart_18 rfl (lv_at hl 2 rfl) ?_
    have hFc := allFree hD hS hA
    refine va_callv (va_runV (As := [.int uI]) (rest := []) ⟨hx, hb, hml, hown, hts⟩ (r_X12_sayNumber l dC dI a k h0 (fT vi 125 (nI p214)) vj (fT vF 75 f7514) vG uI p214 rfl (by first | with_reducible assumption | decide | omega | rfl | assumption) (hbuI) H.size) (cwV 1 hts gwsRX12_sayPart_0 rfl rfl rfl hd_yX12_sayNumber_RX12 (by decide +kernel)) (fz_pre (va_recv hK hP (ci := 12) (q0 := 0) rfl rfl) hP hK hD) rfl rfl hl.1 rfl (lv_room (Nat.le_of_ble_eq_true rfl)) dX12_sayPart_19 (by decide +kernel)) hS (fun q _ h => hFc q h) hFc (fun u t9_ H locs ht hvm hw9 hB9 hz1 hk1 hS => ?_)
    revert u
    refine fz_p2 ?_
    intro p219 f7519 hw9 hB9
    try dsimp only at hw9 hB9
    have hP : va_P (dC, dI) vwCl (WR a k h0 (fT (fT vi 125 (nI p214)) 125 (nI p219)) vj (fT (fT vF 75 f7514) 75 f7519) vG) H := fz_P ht hB9.1
    have hD : va_D A (WR a k h0 (fT (fT vi 125 (nI p214)) 125 (nI p219)) vj (fT (fT vF 75 f7514) 75 f7519) vG) := hB9.2.weaken (fun _ q _ h => hFc q.1 h)
    have e9 : fT vi 125 (nI p219) = fT (fT vi 125 (nI p214)) 125 (nI p219) := (fT_sm _ _ _ _).symm
    rw [← e9] at hP hD
    clear e9
    have e9 : fT vF 75 f7519 = fT (fT vF 75 f7514) 75 f7519 := (fT_sm _ _ _ _).symm
    rw [← e9] at hP hD
    clear e9
    have hP : va_P (dC, dI) vwCl (WR a k h0 (fT vi 125 (nI p219)) vj (fT vF 75 f7519) vG) H := hP
    have hD : va_D A (WR a k h0 (fT vi 125 (nI p219)) vj (fT vF 75 f7519) vG) := hD
    have f19_0 := hw9
    try dsimp only at f19_0
    refine W.widen (k := 0) (n := 0) (by decide +kernel) (by decide +kernel) ?_
    exact W.vret hx hb hr (fun t9_ ht hW => ⟨⟨(p219, f7519), rfl, by (try dsimp only); first | assumption | omega, by rw [ht]; exact hP, hD⟩, hS.F ht⟩) hS.2.2 dX12_sayPart_22
  · have t_7 : (uI).toInt = 1 := toI_nne c_7 rfl (by decide)
    refine W.widen (k := 0) (n := 0) (by decide +kernel) (by decide +kernel) ?_
    exact W.vret hx hb hr (fun t9_ ht hW => ⟨⟨(p22, f752), rfl, by (try dsimp only); first | assumption | omega, by rw [ht]; exact hP, hD⟩, hS.F ht⟩) hS.2.2 dX12_sayPart_10
theorem dX12_sayTerm_0 : decode cX12_sayTerm 0 = .ok (.iload 4, 2) := dk_21 (by decide +kernel)
theorem dX12_sayTerm_2 : decode cX12_sayTerm 2 = .ok (.ifCond .eq 33, 3) := dk_153 (by decide +kernel)
theorem dX12_sayTerm_5 : decode cX12_sayTerm 5 = .ok (.aload_n 0, 1) := dk_42 (by decide +kernel)
theorem dX12_sayTerm_6 : decode cX12_sayTerm 6 = .ok (.bipush 32, 2) := dk_16 (by decide +kernel)
theorem dX12_sayTerm_8 : decode cX12_sayTerm 8 = .ok (.invokevirtual 936, 3) := dk_182 (by decide +kernel)
theorem dX12_sayTerm_11 : decode cX12_sayTerm 11 = .ok (.aload_n 0, 1) := dk_42 (by decide +kernel)
theorem dX12_sayTerm_12 : decode cX12_sayTerm 12 = .ok (.iload_n 1, 1) := dk_27 (by decide +kernel)
theorem dX12_sayTerm_13 : decode cX12_sayTerm 13 = .ok (.ifCond .ge 8, 3) := dk_156 (by decide +kernel)
theorem dX12_sayTerm_16 : decode cX12_sayTerm 16 = .ok (.bipush 45, 2) := dk_16 (by decide +kernel)
theorem dX12_sayTerm_18 : decode cX12_sayTerm 18 = .ok (.goto 5, 3) := dk_167 (by decide +kernel)
theorem dX12_sayTerm_21 : decode cX12_sayTerm 21 = .ok (.bipush 43, 2) := dk_16 (by decide +kernel)
theorem dX12_sayTerm_23 : decode cX12_sayTerm 23 = .ok (.invokevirtual 936, 3) := dk_182 (by decide +kernel)
theorem dX12_sayTerm_26 : decode cX12_sayTerm 26 = .ok (.aload_n 0, 1) := dk_42 (by decide +kernel)
theorem dX12_sayTerm_27 : decode cX12_sayTerm 27 = .ok (.bipush 32, 2) := dk_16 (by decide +kernel)
theorem dX12_sayTerm_29 : decode cX12_sayTerm 29 = .ok (.invokevirtual 936, 3) := dk_182 (by decide +kernel)
theorem dX12_sayTerm_32 : decode cX12_sayTerm 32 = .ok (.goto 24, 3) := dk_167 (by decide +kernel)
theorem dX12_sayTerm_35 : decode cX12_sayTerm 35 = .ok (.iload_n 1, 1) := dk_27 (by decide +kernel)
theorem dX12_sayTerm_36 : decode cX12_sayTerm 36 = .ok (.ifCond .ge 20, 3) := dk_156 (by decide +kernel)
theorem dX12_sayTerm_39 : decode cX12_sayTerm 39 = .ok (.aload_n 0, 1) := dk_42 (by decide +kernel)
theorem dX12_sayTerm_40 : decode cX12_sayTerm 40 = .ok (.bipush 45, 2) := dk_16 (by decide +kernel)
theorem dX12_sayTerm_42 : decode cX12_sayTerm 42 = .ok (.invokevirtual 936, 3) := dk_182 (by decide +kernel)
theorem dX12_sayTerm_45 : decode cX12_sayTerm 45 = .ok (.iload_n 3, 1) := dk_29 (by decide +kernel)
theorem dX12_sayTerm_46 : decode cX12_sayTerm 46 = .ok (.iconst (-1), 1) := dk_2 (by decide +kernel)
theorem dX12_sayTerm_47 : decode cX12_sayTerm 47 = .ok (.if_icmp .eq 9, 3) := dk_159 (by decide +kernel)
theorem dX12_sayTerm_50 : decode cX12_sayTerm 50 = .ok (.aload_n 0, 1) := dk_42 (by decide +kernel)
theorem dX12_sayTerm_51 : decode cX12_sayTerm 51 = .ok (.bipush 32, 2) := dk_16 (by decide +kernel)
theorem dX12_sayTerm_53 : decode cX12_sayTerm 53 = .ok (.invokevirtual 936, 3) := dk_182 (by decide +kernel)
theorem dX12_sayTerm_56 : decode cX12_sayTerm 56 = .ok (.iload_n 1, 1) := dk_27 (by decide +kernel)
theorem dX12_sayTerm_57 : decode cX12_sayTerm 57 = .ok (.ifCond .ge 8, 3) := dk_156 (by decide +kernel)
theorem dX12_sayTerm_60 : decode cX12_sayTerm 60 = .ok (.iload_n 1, 1) := dk_27 (by decide +kernel)
theorem dX12_sayTerm_61 : decode cX12_sayTerm 61 = .ok (.ineg, 1) := dk_116 (by decide +kernel)
theorem dX12_sayTerm_62 : decode cX12_sayTerm 62 = .ok (.goto 4, 3) := dk_167 (by decide +kernel)
theorem dX12_sayTerm_65 : decode cX12_sayTerm 65 = .ok (.iload_n 1, 1) := dk_27 (by decide +kernel)
theorem dX12_sayTerm_66 : decode cX12_sayTerm 66 = .ok (.istore 5, 2) := dk_54 (by decide +kernel)
theorem dX12_sayTerm_68 : decode cX12_sayTerm 68 = .ok (.iload_n 3, 1) := dk_29 (by decide +kernel)
theorem dX12_sayTerm_69 : decode cX12_sayTerm 69 = .ok (.iconst (-1), 1) := dk_2 (by decide +kernel)
theorem dX12_sayTerm_70 : decode cX12_sayTerm 70 = .ok (.if_icmp .ne 11, 3) := dk_160 (by decide +kernel)
theorem dX12_sayTerm_73 : decode cX12_sayTerm 73 = .ok (.aload_n 0, 1) := dk_42 (by decide +kernel)
theorem dX12_sayTerm_74 : decode cX12_sayTerm 74 = .ok (.iload 5, 2) := dk_21 (by decide +kernel)
theorem dX12_sayTerm_76 : decode cX12_sayTerm 76 = .ok (.iload_n 2, 1) := dk_28 (by decide +kernel)
theorem dX12_sayTerm_77 : decode cX12_sayTerm 77 = .ok (.invokevirtual 958, 3) := dk_182 (by decide +kernel)
theorem dX12_sayTerm_80 : decode cX12_sayTerm 80 = .ok (.return_, 1) := dk_177 (by decide +kernel)
theorem dX12_sayTerm_81 : decode cX12_sayTerm 81 = .ok (.iload 5, 2) := dk_21 (by decide +kernel)
theorem dX12_sayTerm_83 : decode cX12_sayTerm 83 = .ok (.iconst 1, 1) := dk_4 (by decide +kernel)
theorem dX12_sayTerm_84 : decode cX12_sayTerm 84 = .ok (.if_icmp .ne 8, 3) := dk_160 (by decide +kernel)
theorem dX12_sayTerm_87 : decode cX12_sayTerm 87 = .ok (.iload_n 2, 1) := dk_28 (by decide +kernel)
theorem dX12_sayTerm_88 : decode cX12_sayTerm 88 = .ok (.iconst 1, 1) := dk_4 (by decide +kernel)
theorem dX12_sayTerm_89 : decode cX12_sayTerm 89 = .ok (.if_icmp .eq 28, 3) := dk_159 (by decide +kernel)
theorem dX12_sayTerm_92 : decode cX12_sayTerm 92 = .ok (.aload_n 0, 1) := dk_42 (by decide +kernel)
theorem dX12_sayTerm_93 : decode cX12_sayTerm 93 = .ok (.iload 5, 2) := dk_21 (by decide +kernel)
theorem dX12_sayTerm_95 : decode cX12_sayTerm 95 = .ok (.iload_n 2, 1) := dk_28 (by decide +kernel)
theorem dX12_sayTerm_96 : decode cX12_sayTerm 96 = .ok (.invokevirtual 958, 3) := dk_182 (by decide +kernel)
theorem dX12_sayTerm_99 : decode cX12_sayTerm 99 = .ok (.aload_n 0, 1) := dk_42 (by decide +kernel)
theorem dX12_sayTerm_100 : decode cX12_sayTerm 100 = .ok (.bipush 32, 2) := dk_16 (by decide +kernel)
theorem dX12_sayTerm_102 : decode cX12_sayTerm 102 = .ok (.invokevirtual 936, 3) := dk_182 (by decide +kernel)
theorem dX12_sayTerm_105 : decode cX12_sayTerm 105 = .ok (.aload_n 0, 1) := dk_42 (by decide +kernel)
theorem dX12_sayTerm_106 : decode cX12_sayTerm 106 = .ok (.bipush 42, 2) := dk_16 (by decide +kernel)
theorem dX12_sayTerm_108 : decode cX12_sayTerm 108 = .ok (.invokevirtual 936, 3) := dk_182 (by decide +kernel)
theorem dX12_sayTerm_111 : decode cX12_sayTerm 111 = .ok (.aload_n 0, 1) := dk_42 (by decide +kernel)
theorem dX12_sayTerm_112 : decode cX12_sayTerm 112 = .ok (.bipush 32, 2) := dk_16 (by decide +kernel)
theorem dX12_sayTerm_114 : decode cX12_sayTerm 114 = .ok (.invokevirtual 936, 3) := dk_182 (by decide +kernel)
theorem dX12_sayTerm_117 : decode cX12_sayTerm 117 = .ok (.aload_n 0, 1) := dk_42 (by decide +kernel)
theorem dX12_sayTerm_118 : decode cX12_sayTerm 118 = .ok (.bipush 120, 2) := dk_16 (by decide +kernel)
theorem dX12_sayTerm_120 : decode cX12_sayTerm 120 = .ok (.invokevirtual 936, 3) := dk_182 (by decide +kernel)
theorem dX12_sayTerm_123 : decode cX12_sayTerm 123 = .ok (.aload_n 0, 1) := dk_42 (by decide +kernel)
theorem dX12_sayTerm_124 : decode cX12_sayTerm 124 = .ok (.iload_n 3, 1) := dk_29 (by decide +kernel)
theorem dX12_sayTerm_125 : decode cX12_sayTerm 125 = .ok (.invokevirtual 955, 3) := dk_182 (by decide +kernel)
theorem dX12_sayTerm_128 : decode cX12_sayTerm 128 = .ok (.return_, 1) := dk_177 (by decide +kernel)
def wsRX12_sayTerm : List Cond := .code yX12_sayTerm cX12_sayTerm 6 none :: ([] ++ wsX120 ++ (wsV RX12 936 RX12 yX12_say wsRX12_say) ++ (wsV RX12 958 RX12 yX12_sayPart wsRX12_sayPart) ++ (wsV RX12 955 RX12 yX12_sayNumber wsRX12_sayNumber))
theorem iwsRX12_sayTerm_in12 : ∀ w ∈ wsX120, w ∈ wsRX12_sayTerm := fun _ h => List.mem_cons_of_mem _ (List.mem_append_left _ (List.mem_append_left _ (List.mem_append_left _ (List.mem_append_right _ h))))
theorem gwsRX12_sayTerm_0 : GoodIn wsRX12_sayTerm (wsV RX12 936 RX12 yX12_say wsRX12_say) := goodIn_sub (fun _ h => List.mem_cons_of_mem _ (List.mem_append_left _ (List.mem_append_left _ (List.mem_append_right _ h)))) (gdV (by decide +kernel) gdwsRX12_say)
theorem gwsRX12_sayTerm_1 : GoodIn wsRX12_sayTerm (wsV RX12 958 RX12 yX12_sayPart wsRX12_sayPart) := goodIn_sub (fun _ h => List.mem_cons_of_mem _ (List.mem_append_left _ (List.mem_append_right _ h))) (gdV (by decide +kernel) gdwsRX12_sayPart)
theorem gwsRX12_sayTerm_2 : GoodIn wsRX12_sayTerm (wsV RX12 955 RX12 yX12_sayNumber wsRX12_sayNumber) := goodIn_sub (fun _ h => List.mem_cons_of_mem _ (List.mem_append_right _ h)) (gdV (by decide +kernel) gdwsRX12_sayNumber)
theorem gdwsRX12_sayTerm : wsRX12_sayTerm.all goodWord = true := gdC rfl (gdA (gdA (gdA (gdA (by decide +kernel : ([] : List Cond).all goodWord = true) gdwsX120) (gdV (by decide +kernel) gdwsRX12_say)) (gdV (by decide +kernel) gdwsRX12_sayPart)) (gdV (by decide +kernel) gdwsRX12_sayNumber))
set_option maxHeartbeats 4000000 in
set_option maxRecDepth 100000 in
/-- sayTerm(v, u, x, some) -/
theorem r_X12_sayTerm (l : Launch) (dC : Nat → ClassId) (dI : Nat → Nat → Nat) (a : Nat → Nat) (k : Nat → ClassId) (h0 : Nat) (vi : Nat → Int32) (vj : Nat → Int64) (vF : Nat → Nat → Int32) (vG : Nat → Nat → Int64) (vI : Int32) (uI : Int32) (xI : Int32) (sI : Int32) (pn : Nat) (hpn : vi 125 = nI pn) (hpn2 : pn ≤ 30000) (hbvI : (vI).toInt.natAbs ≤ 1000000) (hbuI : (uI).toInt.natAbs ≤ 1000000) (hbxI : (xI).toInt.natAbs ≤ 1000000) (sz : Nat) : Met l yX12_sayTerm wsRX12_sayTerm ({ frames := 3, cells := 0, slots := 0, locals := 66 }) (va_Pc [.ref h0, .int vI, .int uI, .int xI, .int sI] (fun U => U.heap.size = sz ∧ va_P (dC, dI) vwCl (WR a k h0 vi vj vF vG) U.heap ∧ va_K (dC, dI) vwCl (tX12 k) U ∧ va_D (fun _ => True) (WR a k h0 vi vj vF vG))) (va_Qv (fun (u : (Nat) × (Nat → Int32)) => ((u.1) ≤ 30000)) (fun (u : (Nat) × (Nat → Int32)) t => va_P (dC, dI) vwCl (WR a k h0 (fT vi 125 (nI (u.1))) vj (fT vF 75 (u.2)) vG) t.heap ∧ va_D (va_A (WR a k h0 vi vj vF vG) sz) (WR a k h0 (fT vi 125 (nI (u.1))) vj (fT vF 75 (u.2)) vG)) (va_A (WR a k h0 vi vj vF vG) sz)) 0 0 (va_A (WR a k h0 vi vj vF vG) sz) := by
  refine Met.ofW (cc := cX12_sayTerm) (maxL := 6) (ret := none) (by decide) rfl ?_
  intro p e s m args below meth c s₁ B hml hv
  obtain ⟨rfl, hsz, hP, hK, hD0⟩ := hv
  have hx := B.exec
  have hb := B.bytes
  have hr := B.returns
  have hts := atoms_spec (ws := wsRX12_sayTerm) B.pre
  have hown : s.vm.findClass RX12 = some m.cls := findClass_of_methodNamed B.named
  have hlocks := B.notSynchronized
  subst hsz
  have hD := hD0.self (sz := s.heap.size)
  generalize hAe : va_A (WR a k h0 vi vj vF vG) s.heap.size = A at hD ⊢
  have hA : ∀ q : Nat, s.heap.size ≤ q → A q := fun q h => by rw [← hAe]; exact Or.inr h
  have hS : va_S A s.heap s.heap [] := va_S.rf
  have hl := lv_entry ([.ref h0, .int vI, .int uI, .int xI, .int sI]) (n := 6) (Nat.le_of_ble_eq_true rfl)
  rw [lg_entry_eq]
  generalize (lg_sl ([.ref h0, .int vI, .int uI, .int xI, .int sI]) ++ List.replicate (6 - (lg_sl ([.ref h0, .int vI, .int uI, .int xI, .int sI])).length) Slot.unset).toArray = ls at hl ⊢
  have hl : lv_has ls 6 [(0, .ref h0), (1, .int vI), (2, .int uI), (3, .int xI), (4, .int sI)] := hl
  refine lv_iload hx hb dX12_sayTerm_0 (lv_at hl 4 rfl) ?_
  refine W.cut (pc := 56) (fun H locs ls stk => ∃ (j1_i125 : Nat) (j1_F75 : Nat → Int32), (j1_i125 ≤ 30000) ∧  stk = [] ∧ va_P (dC, dI) vwCl (WR a k h0 (fT vi 125 (nI j1_i125)) vj (fT vF 75 j1_F75) vG) H ∧ va_D A (WR a k h0 (fT vi 125 (nI j1_i125)) vj (fT vF 75 j1_F75) vG) ∧ va_S A s.heap H locs ∧ lv_has ls 6 [(0, .ref h0), (1, .int vI), (2, .int uI), (3, .int xI), (4, .int sI)]) (fun join1 => ?_) ?_
  · refine lv_if_eq (tgt := 35) hx hb dX12_sayTerm_2 (by decide) (fun c_2 => ?_) (fun c_2 => ?_)
    · have t_2 : (sI).toInt = 0 := toI_eq c_2 rfl (by decide)
      refine lv_iload_n hx hb dX12_sayTerm_35 rfl (lv_at hl 1 rfl) ?_
      refine lv_if_ge (tgt := 56) hx hb dX12_sayTerm_36 (by decide) (fun c_36 => ?_) (fun c_36 => ?_)
      · have t_36 : (vI).toInt ≥ 0 := toI_ge c_36 rfl (by decide)
        have e9 : fT vi 125 (nI pn) = vi := by funext q9; by_cases h9_125 : q9 = 125; (subst h9_125; exact (fT_eq _ _ _).trans (Eq.trans (by first | with_reducible rfl | with_reducible assumption | (symm; with_reducible assumption) | rfl | assumption | (symm; assumption) | (subst_vars; rfl)) (Eq.refl _).symm)); exact (fT_ne _ _ h9_125).trans (Eq.refl _).symm
        have hP : va_P (dC, dI) vwCl (WR a k h0 (fT vi 125 (nI pn)) vj vF vG) s.heap := by rw [e9]; exact hP
        have hD : va_D A (WR a k h0 (fT vi 125 (nI pn)) vj vF vG) := by rw [e9]; exact hD
        clear e9
        have e9 : fT vF 75 (vF 75) = vF := by funext q9; by_cases h9_75 : q9 = 75; (subst h9_75; exact (fT_eq _ _ _).trans (Eq.trans (by first | with_reducible rfl | with_reducible assumption | (symm; with_reducible assumption) | rfl | assumption | (symm; assumption) | (subst_vars; rfl)) (Eq.refl _).symm)); exact (fT_ne _ _ h9_75).trans (Eq.refl _).symm
        have hP : va_P (dC, dI) vwCl (WR a k h0 (fT vi 125 (nI pn)) vj (fT vF 75 (vF 75)) vG) s.heap := by rw [e9]; exact hP
        have hD : va_D A (WR a k h0 (fT vi 125 (nI pn)) vj (fT vF 75 (vF 75)) vG) := by rw [e9]; exact hD
        clear e9
        have hl : lv_has _ _ ([(0, .ref h0), (1, .int vI), (2, .int uI), (3, .int xI), (4, .int sI)]) := lv_sub hl [0, 1, 2, 3, 4] rfl
        exact join1 _ _ _ _ ⟨pn, (vF 75), by first | assumption | omega, rfl, hP, hD, hS, hl⟩
      · have t_36 : ¬ (vI).toInt ≥ 0 := toI_nge c_36 rfl (by decide)
        refine lv_aload_n hx hb dX12_sayTerm_39 rfl (lv_at hl 0 rfl) ?_
        refine lv_bipush (v := 45) hx hb dX12_sayTerm_40 (by decide) ?_
        have hFc := allFree hD hS hA
        refine va_callv (va_runV (As := [.int 45]) (rest := []) ⟨hx, hb, hml, hown, hts⟩ (r_X12_say l dC dI a k h0 vi vj vF vG 45 pn hpn (by first | with_reducible assumption | decide | omega | rfl | assumption) s.heap.size) (cwV 1 hts gwsRX12_sayTerm_0 rfl rfl rfl hd_yX12_say_RX12 (by decide +kernel)) (fz_pre (va_recv hK hP (ci := 12) (q0 := 0) rfl rfl) hP hK hD) rfl rfl hl.1 rfl (lv_room (Nat.le_of_ble_eq_true rfl)) dX12_sayTerm_42 (by decide +kernel)) hS (fun q _ h => hFc q h) hFc (fun u t9_ H locs ht hvm hw9 hB9 hz1 hk1 hS => ?_)
        revert u
        refine fz_p2 ?_
        intro p242 f7542 hw9 hB9
        try dsimp only at hw9 hB9
        have hP : va_P (dC, dI) vwCl (WR a k h0 (fT vi 125 (nI p242)) vj (fT vF 75 f7542) vG) H := fz_P ht hB9.1
        have hD : va_D A (WR a k h0 (fT vi 125 (nI p242)) vj (fT vF 75 f7542) vG) := hB9.2.weaken (fun _ q _ h => hFc q.1 h)
        revert hw9
        refine fz_a3 ?_
        intro f42_0 f42_1 f42_2
        refine lv_iload_n hx hb dX12_sayTerm_45 rfl (lv_at hl 3 rfl) ?_
        refine lv_iconst (v := (-1)) hx hb dX12_sayTerm_46 (by decide) ?_
        refine lv_icmp_eq (tgt := 56) hx hb dX12_sayTerm_47 (by decide) (fun c_47 => ?_) (fun c_47 => ?_)
        · have t_47 : (xI).toInt = -1 := toI_eq c_47 rfl (by decide)
          have hl : lv_has _ _ ([(0, .ref h0), (1, .int vI), (2, .int uI), (3, .int xI), (4, .int sI)]) := lv_sub hl [0, 1, 2, 3, 4] rfl
          exact join1 _ _ _ _ ⟨p242, f7542, by first | assumption | omega, rfl, hP, hD, hS, hl⟩
        · have t_47 : ¬ (xI).toInt = -1 := toI_neq c_47 rfl (by decide)
          refine lv_aload_n hx hb dX12_sayTerm_50 rfl (lv_at hl 0 rfl) ?_
          refine lv_bipush (v := 32) hx hb dX12_sayTerm_51 (by decide) ?_
          have hFc := allFree hD hS hA
          refine va_callv (va_runV (As := [.int 32]) (rest := []) ⟨hx, hb, hml, hown, hts⟩ (r_X12_say l dC dI a k h0 (fT vi 125 (nI p242)) vj (fT vF 75 f7542) vG 32 p242 rfl (by first | with_reducible assumption | decide | omega | rfl | assumption) H.size) (cwV 1 hts gwsRX12_sayTerm_0 rfl rfl rfl hd_yX12_say_RX12 (by decide +kernel)) (fz_pre (va_recv hK hP (ci := 12) (q0 := 0) rfl rfl) hP hK hD) rfl rfl hl.1 rfl (lv_room (Nat.le_of_ble_eq_true rfl)) dX12_sayTerm_53 (by decide +kernel)) hS (fun q _ h => hFc q h) hFc (fun u t9_ H locs ht hvm hw9 hB9 hz1 hk1 hS => ?_)
          revert u
          refine fz_p2 ?_
          intro p253 f7553 hw9 hB9
          try dsimp only at hw9 hB9
          have hP : va_P (dC, dI) vwCl (WR a k h0 (fT (fT vi 125 (nI p242)) 125 (nI p253)) vj (fT (fT vF 75 f7542) 75 f7553) vG) H := fz_P ht hB9.1
          have hD : va_D A (WR a k h0 (fT (fT vi 125 (nI p242)) 125 (nI p253)) vj (fT (fT vF 75 f7542) 75 f7553) vG) := hB9.2.weaken (fun _ q _ h => hFc q.1 h)
          have e9 : fT vi 125 (nI p253) = fT (fT vi 125 (nI p242)) 125 (nI p253) := (fT_sm _ _ _ _).symm
          rw [← e9] at hP hD
          clear e9
          have e9 : fT vF 75 f7553 = fT (fT vF 75 f7542) 75 f7553 := (fT_sm _ _ _ _).symm
          rw [← e9] at hP hD
          clear e9
          have hP : va_P (dC, dI) vwCl (WR a k h0 (fT vi 125 (nI p253)) vj (fT vF 75 f7553) vG) H := hP
          have hD : va_D A (WR a k h0 (fT vi 125 (nI p253)) vj (fT vF 75 f7553) vG) := hD
          revert hw9
          refine fz_a3 ?_
          intro f53_0 f53_1 f53_2
          have hl : lv_has _ _ ([(0, .ref h0), (1, .int vI), (2, .int uI), (3, .int xI), (4, .int sI)]) := lv_sub hl [0, 1, 2, 3, 4] rfl
          exact join1 _ _ _ _ ⟨p253, f7553, by first | assumption | omega, rfl, hP, hD, hS, hl⟩
    · have t_2 : ¬ (sI).toInt = 0 := toI_neq c_2 rfl (by decide)
      refine lv_aload_n hx hb dX12_sayTerm_5 rfl (lv_at hl 0 rfl) ?_
      refine lv_bipush (v := 32) hx hb dX12_sayTerm_6 (by decide) ?_
      have hFc := allFree hD hS hA
      refine va_callv (va_runV (As := [.int 32]) (rest := []) ⟨hx, hb, hml, hown, hts⟩ (r_X12_say l dC dI a k h0 vi vj vF vG 32 pn hpn (by first | with_reducible assumption | decide | omega | rfl | assumption) s.heap.size) (cwV 1 hts gwsRX12_sayTerm_0 rfl rfl rfl hd_yX12_say_RX12 (by decide +kernel)) (fz_pre (va_recv hK hP (ci := 12) (q0 := 0) rfl rfl) hP hK hD) rfl rfl hl.1 rfl (lv_room (Nat.le_of_ble_eq_true rfl)) dX12_sayTerm_8 (by decide +kernel)) hS (fun q _ h => hFc q h) hFc (fun u t9_ H locs ht hvm hw9 hB9 hz1 hk1 hS => ?_)
      revert u
      refine fz_p2 ?_
      intro p28 f758 hw9 hB9
      try dsimp only at hw9 hB9
      have hP : va_P (dC, dI) vwCl (WR a k h0 (fT vi 125 (nI p28)) vj (fT vF 75 f758) vG) H := fz_P ht hB9.1
      have hD : va_D A (WR a k h0 (fT vi 125 (nI p28)) vj (fT vF 75 f758) vG) := hB9.2.weaken (fun _ q _ h => hFc q.1 h)
      revert hw9
      refine fz_a3 ?_
      intro f8_0 f8_1 f8_2
      refine lv_aload_n hx hb dX12_sayTerm_11 rfl (lv_at hl 0 rfl) ?_
      refine lv_iload_n hx hb dX12_sayTerm_12 rfl (lv_at hl 1 rfl) ?_
      refine W.cut (pc := 23) (fun H locs ls stk => ∃ (j3_s0 : Int32),  stk = [.int j3_s0, .ref h0] ∧ va_P (dC, dI) vwCl (WR a k h0 (fT vi 125 (nI p28)) vj (fT vF 75 f758) vG) H ∧ va_D A (WR a k h0 (fT vi 125 (nI p28)) vj (fT vF 75 f758) vG) ∧ va_S A s.heap H locs ∧ lv_has ls 6 [(0, .ref h0), (1, .int vI), (2, .int uI), (3, .int xI), (4, .int sI)]) (fun join2 => ?_) ?_
      · refine lv_if_ge (tgt := 21) hx hb dX12_sayTerm_13 (by decide) (fun c_13 => ?_) (fun c_13 => ?_)
        · have t_13 : (vI).toInt ≥ 0 := toI_ge c_13 rfl (by decide)
          refine lv_bipush (v := 43) hx hb dX12_sayTerm_21 (by decide) ?_
          have hl : lv_has _ _ ([(0, .ref h0), (1, .int vI), (2, .int uI), (3, .int xI), (4, .int sI)]) := lv_sub hl [0, 1, 2, 3, 4] rfl
          exact join2 _ _ _ _ ⟨43, rfl, hP, hD, hS, hl⟩
        · have t_13 : ¬ (vI).toInt ≥ 0 := toI_nge c_13 rfl (by decide)
          refine lv_bipush (v := 45) hx hb dX12_sayTerm_16 (by decide) ?_
          refine lv_goto (tgt := 23) hx hb dX12_sayTerm_18 (by decide) ?_
          have hl : lv_has _ _ ([(0, .ref h0), (1, .int vI), (2, .int uI), (3, .int xI), (4, .int sI)]) := lv_sub hl [0, 1, 2, 3, 4] rfl
          exact join2 _ _ _ _ ⟨45, rfl, hP, hD, hS, hl⟩
      · rintro H locs ls stk ⟨j3_s0, rfl, hP, hD, hS, hl⟩
        have hFc := allFree hD hS hA
        refine va_callv (va_runV (As := [.int j3_s0]) (rest := []) ⟨hx, hb, hml, hown, hts⟩ (r_X12_say l dC dI a k h0 (fT vi 125 (nI p28)) vj (fT vF 75 f758) vG j3_s0 p28 rfl (by first | with_reducible assumption | decide | omega | rfl | assumption) H.size) (cwV 1 hts gwsRX12_sayTerm_0 rfl rfl rfl hd_yX12_say_RX12 (by decide +kernel)) (fz_pre (va_recv hK hP (ci := 12) (q0 := 0) rfl rfl) hP hK hD) rfl rfl hl.1 rfl (lv_room (Nat.le_of_ble_eq_true rfl)) dX12_sayTerm_23 (by decide +kernel)) hS (fun q _ h => hFc q h) hFc (fun u t9_ H locs ht hvm hw9 hB9 hz1 hk1 hS => ?_)
        revert u
        refine fz_p2 ?_
        intro p223 f7523 hw9 hB9
        try dsimp only at hw9 hB9
        have hP : va_P (dC, dI) vwCl (WR a k h0 (fT (fT vi 125 (nI p28)) 125 (nI p223)) vj (fT (fT vF 75 f758) 75 f7523) vG) H := fz_P ht hB9.1
        have hD : va_D A (WR a k h0 (fT (fT vi 125 (nI p28)) 125 (nI p223)) vj (fT (fT vF 75 f758) 75 f7523) vG) := hB9.2.weaken (fun _ q _ h => hFc q.1 h)
        have e9 : fT vi 125 (nI p223) = fT (fT vi 125 (nI p28)) 125 (nI p223) := (fT_sm _ _ _ _).symm
        rw [← e9] at hP hD
        clear e9
        have e9 : fT vF 75 f7523 = fT (fT vF 75 f758) 75 f7523 := (fT_sm _ _ _ _).symm
        rw [← e9] at hP hD
        clear e9
        have hP : va_P (dC, dI) vwCl (WR a k h0 (fT vi 125 (nI p223)) vj (fT vF 75 f7523) vG) H := hP
        have hD : va_D A (WR a k h0 (fT vi 125 (nI p223)) vj (fT vF 75 f7523) vG) := hD
        revert hw9
        refine fz_a3 ?_
        intro f23_0 f23_1 f23_2
        refine lv_aload_n hx hb dX12_sayTerm_26 rfl (lv_at hl 0 rfl) ?_
        refine lv_bipush (v := 32) hx hb dX12_sayTerm_27 (by decide) ?_
        have hFc := allFree hD hS hA
        refine va_callv (va_runV (As := [.int 32]) (rest := []) ⟨hx, hb, hml, hown, hts⟩ (r_X12_say l dC dI a k h0 (fT vi 125 (nI p223)) vj (fT vF 75 f7523) vG 32 p223 rfl (by first | with_reducible assumption | decide | omega | rfl | assumption) H.size) (cwV 1 hts gwsRX12_sayTerm_0 rfl rfl rfl hd_yX12_say_RX12 (by decide +kernel)) (fz_pre (va_recv hK hP (ci := 12) (q0 := 0) rfl rfl) hP hK hD) rfl rfl hl.1 rfl (lv_room (Nat.le_of_ble_eq_true rfl)) dX12_sayTerm_29 (by decide +kernel)) hS (fun q _ h => hFc q h) hFc (fun u t9_ H locs ht hvm hw9 hB9 hz1 hk1 hS => ?_)
        revert u
        refine fz_p2 ?_
        intro p229 f7529 hw9 hB9
        try dsimp only at hw9 hB9
        have hP : va_P (dC, dI) vwCl (WR a k h0 (fT (fT vi 125 (nI p223)) 125 (nI p229)) vj (fT (fT vF 75 f7523) 75 f7529) vG) H := fz_P ht hB9.1
        have hD : va_D A (WR a k h0 (fT (fT vi 125 (nI p223)) 125 (nI p229)) vj (fT (fT vF 75 f7523) 75 f7529) vG) := hB9.2.weaken (fun _ q _ h => hFc q.1 h)
        have e9 : fT vi 125 (nI p229) = fT (fT vi 125 (nI p223)) 125 (nI p229) := (fT_sm _ _ _ _).symm
        rw [← e9] at hP hD
        clear e9
        have e9 : fT vF 75 f7529 = fT (fT vF 75 f7523) 75 f7529 := (fT_sm _ _ _ _).symm
        rw [← e9] at hP hD
        clear e9
        have hP : va_P (dC, dI) vwCl (WR a k h0 (fT vi 125 (nI p229)) vj (fT vF 75 f7529) vG) H := hP
        have hD : va_D A (WR a k h0 (fT vi 125 (nI p229)) vj (fT vF 75 f7529) vG) := hD
        revert hw9
        refine fz_a3 ?_
        intro f29_0 f29_1 f29_2
        refine lv_goto (tgt := 56) hx hb dX12_sayTerm_32 (by decide) ?_
        have hl : lv_has _ _ ([(0, .ref h0), (1, .int vI), (2, .int uI), (3, .int xI), (4, .int sI)]) := lv_sub hl [0, 1, 2, 3, 4] rfl
        exact join1 _ _ _ _ ⟨p229, f7529, by first | assumption | omega, rfl, hP, hD, hS, hl⟩
  · rintro H locs ls stk ⟨j1_i125, j1_F75, hj1_i125, rfl, hP, hD, hS, hl⟩
    refine lv_iload_n hx hb dX12_sayTerm_56 rfl (lv_at hl 1 rfl) ?_
    refine W.cut (pc := 66) (fun H locs ls stk => ∃ (aI : Int32), ((aI).toInt.natAbs ≤ 1000000) ∧  stk = [.int aI] ∧ va_P (dC, dI) vwCl (WR a k h0 (fT vi 125 (nI j1_i125)) vj (fT vF 75 j1_F75) vG) H ∧ va_D A (WR a k h0 (fT vi 125 (nI j1_i125)) vj (fT vF 75 j1_F75) vG) ∧ va_S A s.heap H locs ∧ lv_has ls 6 [(0, .ref h0), (1, .int vI), (2, .int uI), (3, .int xI), (4, .int sI)]) (fun join3 => ?_) ?_
    · refine lv_if_ge (tgt := 65) hx hb dX12_sayTerm_57 (by decide) (fun c_57 => ?_) (fun c_57 => ?_)
      · have t_57 : (vI).toInt ≥ 0 := toI_ge c_57 rfl (by decide)
        refine lv_iload_n hx hb dX12_sayTerm_65 rfl (lv_at hl 1 rfl) ?_
        have hl : lv_has _ _ ([(0, .ref h0), (1, .int vI), (2, .int uI), (3, .int xI), (4, .int sI)]) := lv_sub hl [0, 1, 2, 3, 4] rfl
        exact join3 _ _ _ _ ⟨vI, hbvI, rfl, hP, hD, hS, hl⟩
      · have t_57 : ¬ (vI).toInt ≥ 0 := toI_nge c_57 rfl (by decide)
        refine lv_iload_n hx hb dX12_sayTerm_60 rfl (lv_at hl 1 rfl) ?_
        refine lv_ineg hx hb dX12_sayTerm_61 ?_
        refine lv_goto (tgt := 66) hx hb dX12_sayTerm_62 (by decide) ?_
        have hl : lv_has _ _ ([(0, .ref h0), (1, .int vI), (2, .int uI), (3, .int xI), (4, .int sI)]) := lv_sub hl [0, 1, 2, 3, 4] rfl
        exact join3 _ _ _ _ ⟨(-vI), (neg32 (b := 1000000) hbvI (by decide)).1, rfl, hP, hD, hS, hl⟩
    · rintro H locs ls stk ⟨aI, hbaI, rfl, hP, hD, hS, hl⟩
      refine lv_istore hx hb dX12_sayTerm_66 hl (by decide) rfl (fun ls (hl : lv_has ls _ ([(5, .int aI), (0, .ref h0), (1, .int vI), (2, .int uI), (3, .int xI), (4, .int sI)])) => ?_)
      refine lv_iload_n hx hb dX12_sayTerm_68 rfl (lv_at hl 4 rfl) ?_
      refine lv_iconst (v := (-1)) hx hb dX12_sayTerm_69 (by decide) ?_
      refine lv_icmp_ne (tgt := 81) hx hb dX12_sayTerm_70 (by decide) (fun c_70 => ?_) (fun c_70 => ?_)
      · have t_70 : (xI).toInt ≠ -1 := toI_ne c_70 rfl (by decide)
        refine lv_iload hx hb dX12_sayTerm_81 (lv_at hl 0 rfl) ?_
        refine lv_iconst (v := 1) hx hb dX12_sayTerm_83 (by decide) ?_
        refine W.cut (pc := 117) (fun H locs ls stk => ∃ (j5_i125 : Nat) (j5_F75 : Nat → Int32), (j5_i125 ≤ 30000) ∧  stk = [] ∧ va_P (dC, dI) vwCl (WR a k h0 (fT vi 125 (nI j5_i125)) vj (fT vF 75 j5_F75) vG) H ∧ va_D A (WR a k h0 (fT vi 125 (nI j5_i125)) vj (fT vF 75 j5_F75) vG) ∧ va_S A s.heap H locs ∧ lv_has ls 6 [(5, .int aI), (0, .ref h0), (1, .int vI), (2, .int uI), (3, .int xI), (4, .int sI)]) (fun join4 => ?_) ?_
        · refine lv_icmp_ne (tgt := 92) hx hb dX12_sayTerm_84 (by decide) (fun c_84 => ?_) (fun c_84 => ?_)
          · have t_84 : (aI).toInt ≠ 1 := toI_ne c_84 rfl (by decide)
            refine lv_aload_n hx hb dX12_sayTerm_92 rfl (lv_at hl 1 rfl) ?_
            refine lv_iload hx hb dX12_sayTerm_93 (lv_at hl 0 rfl) ?_
            refine lv_iload_n hx hb dX12_sayTerm_95 rfl (lv_at hl 3 rfl) ?_
            have hFc := allFree hD hS hA
            refine va_callv (va_runV (As := [.int aI, .int uI]) (rest := []) ⟨hx, hb, hml, hown, hts⟩ (r_X12_sayPart l dC dI a k h0 (fT vi 125 (nI j1_i125)) vj (fT vF 75 j1_F75) vG aI uI j1_i125 rfl (by first | with_reducible assumption | decide | omega | rfl | assumption) (hbaI) (hbuI) H.size) (cwV 2 hts gwsRX12_sayTerm_1 rfl rfl rfl hd_yX12_sayPart_RX12 (by decide +kernel)) (fz_pre (va_recv hK hP (ci := 12) (q0 := 0) rfl rfl) hP hK hD) rfl rfl hl.1 rfl (lv_room (Nat.le_of_ble_eq_true rfl)) dX12_sayTerm_96 (by decide +kernel)) hS (fun q _ h => hFc q h) hFc (fun u t9_ H locs ht hvm hw9 hB9 hz1 hk1 hS => ?_)
            revert u
            refine fz_p2 ?_
            intro p296 f7596 hw9 hB9
            try dsimp only at hw9 hB9
            have hP : va_P (dC, dI) vwCl (WR a k h0 (fT (fT vi 125 (nI j1_i125)) 125 (nI p296)) vj (fT (fT vF 75 j1_F75) 75 f7596) vG) H := fz_P ht hB9.1
            have hD : va_D A (WR a k h0 (fT (fT vi 125 (nI j1_i125)) 125 (nI p296)) vj (fT (fT vF 75 j1_F75) 75 f7596) vG) := hB9.2.weaken (fun _ q _ h => hFc q.1 h)
            have e9 : fT vi 125 (nI p296) = fT (fT vi 125 (nI j1_i125)) 125 (nI p296) := (fT_sm _ _ _ _).symm
            rw [← e9] at hP hD
            clear e9
            have e9 : fT vF 75 f7596 = fT (fT vF 75 j1_F75) 75 f7596 := (fT_sm _ _ _ _).symm
            rw [← e9] at hP hD
            clear e9
            have hP : va_P (dC, dI) vwCl (WR a k h0 (fT vi 125 (nI p296)) vj (fT vF 75 f7596) vG) H := hP
            have hD : va_D A (WR a k h0 (fT vi 125 (nI p296)) vj (fT vF 75 f7596) vG) := hD
            have f96_0 := hw9
            try dsimp only at f96_0
            refine lv_aload_n hx hb dX12_sayTerm_99 rfl (lv_at hl 1 rfl) ?_
            refine lv_bipush (v := 32) hx hb dX12_sayTerm_100 (by decide) ?_
            have hFc := allFree hD hS hA
            refine va_callv (va_runV (As := [.int 32]) (rest := []) ⟨hx, hb, hml, hown, hts⟩ (r_X12_say l dC dI a k h0 (fT vi 125 (nI p296)) vj (fT vF 75 f7596) vG 32 p296 rfl (by first | with_reducible assumption | decide | omega | rfl | assumption) H.size) (cwV 1 hts gwsRX12_sayTerm_0 rfl rfl rfl hd_yX12_say_RX12 (by decide +kernel)) (fz_pre (va_recv hK hP (ci := 12) (q0 := 0) rfl rfl) hP hK hD) rfl rfl hl.1 rfl (lv_room (Nat.le_of_ble_eq_true rfl)) dX12_sayTerm_102 (by decide +kernel)) hS (fun q _ h => hFc q h) hFc (fun u t9_ H locs ht hvm hw9 hB9 hz1 hk1 hS => ?_)
            revert u
            refine fz_p2 ?_
            intro p2102 f75102 hw9 hB9
            try dsimp only at hw9 hB9
            have hP : va_P (dC, dI) vwCl (WR a k h0 (fT (fT vi 125 (nI p296)) 125 (nI p2102)) vj (fT (fT vF 75 f7596) 75 f75102) vG) H := fz_P ht hB9.1
            have hD : va_D A (WR a k h0 (fT (fT vi 125 (nI p296)) 125 (nI p2102)) vj (fT (fT vF 75 f7596) 75 f75102) vG) := hB9.2.weaken (fun _ q _ h => hFc q.1 h)
            have e9 : fT vi 125 (nI p2102) = fT (fT vi 125 (nI p296)) 125 (nI p2102) := (fT_sm _ _ _ _).symm
            rw [← e9] at hP hD
            clear e9
            have e9 : fT vF 75 f75102 = fT (fT vF 75 f7596) 75 f75102 := (fT_sm _ _ _ _).symm
            rw [← e9] at hP hD
            clear e9
            have hP : va_P (dC, dI) vwCl (WR a k h0 (fT vi 125 (nI p2102)) vj (fT vF 75 f75102) vG) H := hP
            have hD : va_D A (WR a k h0 (fT vi 125 (nI p2102)) vj (fT vF 75 f75102) vG) := hD
            revert hw9
            refine fz_a3 ?_
            intro f102_0 f102_1 f102_2
            refine lv_aload_n hx hb dX12_sayTerm_105 rfl (lv_at hl 1 rfl) ?_
            refine lv_bipush (v := 42) hx hb dX12_sayTerm_106 (by decide) ?_
            have hFc := allFree hD hS hA
            refine va_callv (va_runV (As := [.int 42]) (rest := []) ⟨hx, hb, hml, hown, hts⟩ (r_X12_say l dC dI a k h0 (fT vi 125 (nI p2102)) vj (fT vF 75 f75102) vG 42 p2102 rfl (by first | with_reducible assumption | decide | omega | rfl | assumption) H.size) (cwV 1 hts gwsRX12_sayTerm_0 rfl rfl rfl hd_yX12_say_RX12 (by decide +kernel)) (fz_pre (va_recv hK hP (ci := 12) (q0 := 0) rfl rfl) hP hK hD) rfl rfl hl.1 rfl (lv_room (Nat.le_of_ble_eq_true rfl)) dX12_sayTerm_108 (by decide +kernel)) hS (fun q _ h => hFc q h) hFc (fun u t9_ H locs ht hvm hw9 hB9 hz1 hk1 hS => ?_)
            revert u
            refine fz_p2 ?_
            intro p2108 f75108 hw9 hB9
            try dsimp only at hw9 hB9
            have hP : va_P (dC, dI) vwCl (WR a k h0 (fT (fT vi 125 (nI p2102)) 125 (nI p2108)) vj (fT (fT vF 75 f75102) 75 f75108) vG) H := fz_P ht hB9.1
            have hD : va_D A (WR a k h0 (fT (fT vi 125 (nI p2102)) 125 (nI p2108)) vj (fT (fT vF 75 f75102) 75 f75108) vG) := hB9.2.weaken (fun _ q _ h => hFc q.1 h)
            have e9 : fT vi 125 (nI p2108) = fT (fT vi 125 (nI p2102)) 125 (nI p2108) := (fT_sm _ _ _ _).symm
            rw [← e9] at hP hD
            clear e9
            have e9 : fT vF 75 f75108 = fT (fT vF 75 f75102) 75 f75108 := (fT_sm _ _ _ _).symm
            rw [← e9] at hP hD
            clear e9
            have hP : va_P (dC, dI) vwCl (WR a k h0 (fT vi 125 (nI p2108)) vj (fT vF 75 f75108) vG) H := hP
            have hD : va_D A (WR a k h0 (fT vi 125 (nI p2108)) vj (fT vF 75 f75108) vG) := hD
            revert hw9
            refine fz_a3 ?_
            intro f108_0 f108_1 f108_2
            refine lv_aload_n hx hb dX12_sayTerm_111 rfl (lv_at hl 1 rfl) ?_
            refine lv_bipush (v := 32) hx hb dX12_sayTerm_112 (by decide) ?_
            have hFc := allFree hD hS hA
            refine va_callv (va_runV (As := [.int 32]) (rest := []) ⟨hx, hb, hml, hown, hts⟩ (r_X12_say l dC dI a k h0 (fT vi 125 (nI p2108)) vj (fT vF 75 f75108) vG 32 p2108 rfl (by first | with_reducible assumption | decide | omega | rfl | assumption) H.size) (cwV 1 hts gwsRX12_sayTerm_0 rfl rfl rfl hd_yX12_say_RX12 (by decide +kernel)) (fz_pre (va_recv hK hP (ci := 12) (q0 := 0) rfl rfl) hP hK hD) rfl rfl hl.1 rfl (lv_room (Nat.le_of_ble_eq_true rfl)) dX12_sayTerm_114 (by decide +kernel)) hS (fun q _ h => hFc q h) hFc (fun u t9_ H locs ht hvm hw9 hB9 hz1 hk1 hS => ?_)
            revert u
            refine fz_p2 ?_
            intro p2114 f75114 hw9 hB9
            try dsimp only at hw9 hB9
            have hP : va_P (dC, dI) vwCl (WR a k h0 (fT (fT vi 125 (nI p2108)) 125 (nI p2114)) vj (fT (fT vF 75 f75108) 75 f75114) vG) H := fz_P ht hB9.1
            have hD : va_D A (WR a k h0 (fT (fT vi 125 (nI p2108)) 125 (nI p2114)) vj (fT (fT vF 75 f75108) 75 f75114) vG) := hB9.2.weaken (fun _ q _ h => hFc q.1 h)
            have e9 : fT vi 125 (nI p2114) = fT (fT vi 125 (nI p2108)) 125 (nI p2114) := (fT_sm _ _ _ _).symm
            rw [← e9] at hP hD
            clear e9
            have e9 : fT vF 75 f75114 = fT (fT vF 75 f75108) 75 f75114 := (fT_sm _ _ _ _).symm
            rw [← e9] at hP hD
            clear e9
            have hP : va_P (dC, dI) vwCl (WR a k h0 (fT vi 125 (nI p2114)) vj (fT vF 75 f75114) vG) H := hP
            have hD : va_D A (WR a k h0 (fT vi 125 (nI p2114)) vj (fT vF 75 f75114) vG) := hD
            revert hw9
            refine fz_a3 ?_
            intro f114_0 f114_1 f114_2
            have hl : lv_has _ _ ([(5, .int aI), (0, .ref h0), (1, .int vI), (2, .int uI), (3, .int xI), (4, .int sI)]) := lv_sub hl [0, 1, 2, 3, 4, 5] rfl
            exact join4 _ _ _ _ ⟨p2114, f75114, by first | assumption | omega, rfl, hP, hD, hS, hl⟩
          · have t_84 : (aI).toInt = 1 := toI_nne c_84 rfl (by decide)
            refine lv_iload_n hx hb dX12_sayTerm_87 rfl (lv_at hl 3 rfl) ?_
            refine lv_iconst (v := 1) hx hb dX12_sayTerm_88 (by decide) ?_
            refine lv_icmp_eq (tgt := 117) hx hb dX12_sayTerm_89 (by decide) (fun c_89 => ?_) (fun c_89 => ?_)
            · have t_89 : (uI).toInt = 1 := toI_eq c_89 rfl (by decide)
              have hl : lv_has _ _ ([(5, .int aI), (0, .ref h0), (1, .int vI), (2, .int uI), (3, .int xI), (4, .int sI)]) := lv_sub hl [0, 1, 2, 3, 4, 5] rfl
              exact join4 _ _ _ _ ⟨j1_i125, j1_F75, by first | assumption | omega, rfl, hP, hD, hS, hl⟩
            · have t_89 : ¬ (uI).toInt = 1 := toI_neq c_89 rfl (by decide)
              refine lv_aload_n hx hb dX12_sayTerm_92 rfl (lv_at hl 1 rfl) ?_
              refine lv_iload hx hb dX12_sayTerm_93 (lv_at hl 0 rfl) ?_
              refine lv_iload_n hx hb dX12_sayTerm_95 rfl (lv_at hl 3 rfl) ?_
              have hFc := allFree hD hS hA
              refine va_callv (va_runV (As := [.int aI, .int uI]) (rest := []) ⟨hx, hb, hml, hown, hts⟩ (r_X12_sayPart l dC dI a k h0 (fT vi 125 (nI j1_i125)) vj (fT vF 75 j1_F75) vG aI uI j1_i125 rfl (by first | with_reducible assumption | decide | omega | rfl | assumption) (hbaI) (hbuI) H.size) (cwV 2 hts gwsRX12_sayTerm_1 rfl rfl rfl hd_yX12_sayPart_RX12 (by decide +kernel)) (fz_pre (va_recv hK hP (ci := 12) (q0 := 0) rfl rfl) hP hK hD) rfl rfl hl.1 rfl (lv_room (Nat.le_of_ble_eq_true rfl)) dX12_sayTerm_96 (by decide +kernel)) hS (fun q _ h => hFc q h) hFc (fun u t9_ H locs ht hvm hw9 hB9 hz1 hk1 hS => ?_)
              revert u
              refine fz_p2 ?_
              intro p296_1 f7596_1 hw9 hB9
              try dsimp only at hw9 hB9
              have hP : va_P (dC, dI) vwCl (WR a k h0 (fT (fT vi 125 (nI j1_i125)) 125 (nI p296_1)) vj (fT (fT vF 75 j1_F75) 75 f7596_1) vG) H := fz_P ht hB9.1
              have hD : va_D A (WR a k h0 (fT (fT vi 125 (nI j1_i125)) 125 (nI p296_1)) vj (fT (fT vF 75 j1_F75) 75 f7596_1) vG) := hB9.2.weaken (fun _ q _ h => hFc q.1 h)
              have e9 : fT vi 125 (nI p296_1) = fT (fT vi 125 (nI j1_i125)) 125 (nI p296_1) := (fT_sm _ _ _ _).symm
              rw [← e9] at hP hD
              clear e9
              have e9 : fT vF 75 f7596_1 = fT (fT vF 75 j1_F75) 75 f7596_1 := (fT_sm _ _ _ _).symm
              rw [← e9] at hP hD
              clear e9
              have hP : va_P (dC, dI) vwCl (WR a k h0 (fT vi 125 (nI p296_1)) vj (fT vF 75 f7596_1) vG) H := hP
              have hD : va_D A (WR a k h0 (fT vi 125 (nI p296_1)) vj (fT vF 75 f7596_1) vG) := hD
              have f96_1_0 := hw9
              try dsimp only at f96_1_0
              refine lv_aload_n hx hb dX12_sayTerm_99 rfl (lv_at hl 1 rfl) ?_
              refine lv_bipush (v := 32) hx hb dX12_sayTerm_100 (by decide) ?_
              have hFc := allFree hD hS hA
              refine va_callv (va_runV (As := [.int 32]) (rest := []) ⟨hx, hb, hml, hown, hts⟩ (r_X12_say l dC dI a k h0 (fT vi 125 (nI p296_1)) vj (fT vF 75 f7596_1) vG 32 p296_1 rfl (by first | with_reducible assumption | decide | omega | rfl | assumption) H.size) (cwV 1 hts gwsRX12_sayTerm_0 rfl rfl rfl hd_yX12_say_RX12 (by decide +kernel)) (fz_pre (va_recv hK hP (ci := 12) (q0 := 0) rfl rfl) hP hK hD) rfl rfl hl.1 rfl (lv_room (Nat.le_of_ble_eq_true rfl)) dX12_sayTerm_102 (by decide +kernel)) hS (fun q _ h => hFc q h) hFc (fun u t9_ H locs ht hvm hw9 hB9 hz1 hk1 hS => ?_)
              revert u
              refine fz_p2 ?_
              intro p2102_1 f75102_1 hw9 hB9
              try dsimp only at hw9 hB9
              have hP : va_P (dC, dI) vwCl (WR a k h0 (fT (fT vi 125 (nI p296_1)) 125 (nI p2102_1)) vj (fT (fT vF 75 f7596_1) 75 f75102_1) vG) H := fz_P ht hB9.1
              have hD : va_D A (WR a k h0 (fT (fT vi 125 (nI p296_1)) 125 (nI p2102_1)) vj (fT (fT vF 75 f7596_1) 75 f75102_1) vG) := hB9.2.weaken (fun _ q _ h => hFc q.1 h)
              have e9 : fT vi 125 (nI p2102_1) = fT (fT vi 125 (nI p296_1)) 125 (nI p2102_1) := (fT_sm _ _ _ _).symm
              rw [← e9] at hP hD
              clear e9
              have e9 : fT vF 75 f75102_1 = fT (fT vF 75 f7596_1) 75 f75102_1 := (fT_sm _ _ _ _).symm
              rw [← e9] at hP hD
              clear e9
              have hP : va_P (dC, dI) vwCl (WR a k h0 (fT vi 125 (nI p2102_1)) vj (fT vF 75 f75102_1) vG) H := hP
              have hD : va_D A (WR a k h0 (fT vi 125 (nI p2102_1)) vj (fT vF 75 f75102_1) vG) := hD
              revert hw9
              refine fz_a3 ?_
              intro f102_1_0 f102_1_1 f102_1_2
              refine lv_aload_n hx hb dX12_sayTerm_105 rfl (lv_at hl 1 rfl) ?_
              refine lv_bipush (v := 42) hx hb dX12_sayTerm_106 (by decide) ?_
              have hFc := allFree hD hS hA
              refine va_callv (va_runV (As := [.int 42]) (rest := []) ⟨hx, hb, hml, hown, hts⟩ (r_X12_say l dC dI a k h0 (fT vi 125 (nI p2102_1)) vj (fT vF 75 f75102_1) vG 42 p2102_1 rfl (by first | with_reducible assumption | decide | omega | rfl | assumption) H.size) (cwV 1 hts gwsRX12_sayTerm_0 rfl rfl rfl hd_yX12_say_RX12 (by decide +kernel)) (fz_pre (va_recv hK hP (ci := 12) (q0 := 0) rfl rfl) hP hK hD) rfl rfl hl.1 rfl (lv_room (Nat.le_of_ble_eq_true rfl)) dX12_sayTerm_108 (by decide +kernel)) hS (fun q _ h => hFc q h) hFc (fun u t9_ H locs ht hvm hw9 hB9 hz1 hk1 hS => ?_)
              revert u
              refine fz_p2 ?_
              intro p2108_1 f75108_1 hw9 hB9
              try dsimp only at hw9 hB9
              have hP : va_P (dC, dI) vwCl (WR a k h0 (fT (fT vi 125 (nI p2102_1)) 125 (nI p2108_1)) vj (fT (fT vF 75 f75102_1) 75 f75108_1) vG) H := fz_P ht hB9.1
              have hD : va_D A (WR a k h0 (fT (fT vi 125 (nI p2102_1)) 125 (nI p2108_1)) vj (fT (fT vF 75 f75102_1) 75 f75108_1) vG) := hB9.2.weaken (fun _ q _ h => hFc q.1 h)
              have e9 : fT vi 125 (nI p2108_1) = fT (fT vi 125 (nI p2102_1)) 125 (nI p2108_1) := (fT_sm _ _ _ _).symm
              rw [← e9] at hP hD
              clear e9
              have e9 : fT vF 75 f75108_1 = fT (fT vF 75 f75102_1) 75 f75108_1 := (fT_sm _ _ _ _).symm
              rw [← e9] at hP hD
              clear e9
              have hP : va_P (dC, dI) vwCl (WR a k h0 (fT vi 125 (nI p2108_1)) vj (fT vF 75 f75108_1) vG) H := hP
              have hD : va_D A (WR a k h0 (fT vi 125 (nI p2108_1)) vj (fT vF 75 f75108_1) vG) := hD
              revert hw9
              refine fz_a3 ?_
              intro f108_1_0 f108_1_1 f108_1_2
              refine lv_aload_n hx hb dX12_sayTerm_111 rfl (lv_at hl 1 rfl) ?_
              refine lv_bipush (v := 32) hx hb dX12_sayTerm_112 (by decide) ?_
              have hFc := allFree hD hS hA
              refine va_callv (va_runV (As := [.int 32]) (rest := []) ⟨hx, hb, hml, hown, hts⟩ (r_X12_say l dC dI a k h0 (fT vi 125 (nI p2108_1)) vj (fT vF 75 f75108_1) vG 32 p2108_1 rfl (by first | with_reducible assumption | decide | omega | rfl | assumption) H.size) (cwV 1 hts gwsRX12_sayTerm_0 rfl rfl rfl hd_yX12_say_RX12 (by decide +kernel)) (fz_pre (va_recv hK hP (ci := 12) (q0 := 0) rfl rfl) hP hK hD) rfl rfl hl.1 rfl (lv_room (Nat.le_of_ble_eq_true rfl)) dX12_sayTerm_114 (by decide +kernel)) hS (fun q _ h => hFc q h) hFc (fun u t9_ H locs ht hvm hw9 hB9 hz1 hk1 hS => ?_)
              revert u
              refine fz_p2 ?_
              intro p2114_1 f75114_1 hw9 hB9
              try dsimp only at hw9 hB9
              have hP : va_P (dC, dI) vwCl (WR a k h0 (fT (fT vi 125 (nI p2108_1)) 125 (nI p2114_1)) vj (fT (fT vF 75 f75108_1) 75 f75114_1) vG) H := fz_P ht hB9.1
              have hD : va_D A (WR a k h0 (fT (fT vi 125 (nI p2108_1)) 125 (nI p2114_1)) vj (fT (fT vF 75 f75108_1) 75 f75114_1) vG) := hB9.2.weaken (fun _ q _ h => hFc q.1 h)
              have e9 : fT vi 125 (nI p2114_1) = fT (fT vi 125 (nI p2108_1)) 125 (nI p2114_1) := (fT_sm _ _ _ _).symm
              rw [← e9] at hP hD
              clear e9
              have e9 : fT vF 75 f75114_1 = fT (fT vF 75 f75108_1) 75 f75114_1 := (fT_sm _ _ _ _).symm
              rw [← e9] at hP hD
              clear e9
              have hP : va_P (dC, dI) vwCl (WR a k h0 (fT vi 125 (nI p2114_1)) vj (fT vF 75 f75114_1) vG) H := hP
              have hD : va_D A (WR a k h0 (fT vi 125 (nI p2114_1)) vj (fT vF 75 f75114_1) vG) := hD
              revert hw9
              refine fz_a3 ?_
              intro f114_1_0 f114_1_1 f114_1_2
              have hl : lv_has _ _ ([(5, .int aI), (0, .ref h0), (1, .int vI), (2, .int uI), (3, .int xI), (4, .int sI)]) := lv_sub hl [0, 1, 2, 3, 4, 5] rfl
              exact join4 _ _ _ _ ⟨p2114_1, f75114_1, by first | assumption | omega, rfl, hP, hD, hS, hl⟩
        · rintro H locs ls stk ⟨j5_i125, j5_F75, hj5_i125, rfl, hP, hD, hS, hl⟩
          refine lv_aload_n hx hb dX12_sayTerm_117 rfl (lv_at hl 1 rfl) ?_
          refine lv_bipush (v := 120) hx hb dX12_sayTerm_118 (by decide) ?_
          have hFc := allFree hD hS hA
          refine va_callv (va_runV (As := [.int 120]) (rest := []) ⟨hx, hb, hml, hown, hts⟩ (r_X12_say l dC dI a k h0 (fT vi 125 (nI j5_i125)) vj (fT vF 75 j5_F75) vG 120 j5_i125 rfl (by first | with_reducible assumption | decide | omega | rfl | assumption) H.size) (cwV 1 hts gwsRX12_sayTerm_0 rfl rfl rfl hd_yX12_say_RX12 (by decide +kernel)) (fz_pre (va_recv hK hP (ci := 12) (q0 := 0) rfl rfl) hP hK hD) rfl rfl hl.1 rfl (lv_room (Nat.le_of_ble_eq_true rfl)) dX12_sayTerm_120 (by decide +kernel)) hS (fun q _ h => hFc q h) hFc (fun u t9_ H locs ht hvm hw9 hB9 hz1 hk1 hS => ?_)
          revert u
          refine fz_p2 ?_
          intro p2120 f75120 hw9 hB9
          try dsimp only at hw9 hB9
          have hP : va_P (dC, dI) vwCl (WR a k h0 (fT (fT vi 125 (nI j5_i125)) 125 (nI p2120)) vj (fT (fT vF 75 j5_F75) 75 f75120) vG) H := fz_P ht hB9.1
          have hD : va_D A (WR a k h0 (fT (fT vi 125 (nI j5_i125)) 125 (nI p2120)) vj (fT (fT vF 75 j5_F75) 75 f75120) vG) := hB9.2.weaken (fun _ q _ h => hFc q.1 h)
          have e9 : fT vi 125 (nI p2120) = fT (fT vi 125 (nI j5_i125)) 125 (nI p2120) := (fT_sm _ _ _ _).symm
          rw [← e9] at hP hD
          clear e9
          have e9 : fT vF 75 f75120 = fT (fT vF 75 j5_F75) 75 f75120 := (fT_sm _ _ _ _).symm
          rw [← e9] at hP hD
          clear e9
          have hP : va_P (dC, dI) vwCl (WR a k h0 (fT vi 125 (nI p2120)) vj (fT vF 75 f75120) vG) H := hP
          have hD : va_D A (WR a k h0 (fT vi 125 (nI p2120)) vj (fT vF 75 f75120) vG) := hD
          revert hw9
          refine fz_a3 ?_
          intro f120_0 f120_1 f120_2
          refine lv_aload_n hx hb dX12_sayTerm_123 rfl (lv_at hl 1 rfl) ?_
          refine lv_iload_n hx hb dX12_sayTerm_124 rfl (lv_at hl 4 rfl) ?_
          have hFc := allFree hD hS hA
          refine va_callv (va_runV (As := [.int xI]) (rest := []) ⟨hx, hb, hml, hown, hts⟩ (r_X12_sayNumber l dC dI a k h0 (fT vi 125 (nI p2120)) vj (fT vF 75 f75120) vG xI p2120 rfl (by first | with_reducible assumption | decide | omega | rfl | assumption) (hbxI) H.size) (cwV 1 hts gwsRX12_sayTerm_2 rfl rfl rfl hd_yX12_sayNumber_RX12 (by decide +kernel)) (fz_pre (va_recv hK hP (ci := 12) (q0 := 0) rfl rfl) hP hK hD) rfl rfl hl.1 rfl (lv_room (Nat.le_of_ble_eq_true rfl)) dX12_sayTerm_125 (by decide +kernel)) hS (fun q _ h => hFc q h) hFc (fun u t9_ H locs ht hvm hw9 hB9 hz1 hk1 hS => ?_)
          revert u
          refine fz_p2 ?_
          intro p2125 f75125 hw9 hB9
          try dsimp only at hw9 hB9
          have hP : va_P (dC, dI) vwCl (WR a k h0 (fT (fT vi 125 (nI p2120)) 125 (nI p2125)) vj (fT (fT vF 75 f75120) 75 f75125) vG) H := fz_P ht hB9.1
          have hD : va_D A (WR a k h0 (fT (fT vi 125 (nI p2120)) 125 (nI p2125)) vj (fT (fT vF 75 f75120) 75 f75125) vG) := hB9.2.weaken (fun _ q _ h => hFc q.1 h)
          have e9 : fT vi 125 (nI p2125) = fT (fT vi 125 (nI p2120)) 125 (nI p2125) := (fT_sm _ _ _ _).symm
          rw [← e9] at hP hD
          clear e9
          have e9 : fT vF 75 f75125 = fT (fT vF 75 f75120) 75 f75125 := (fT_sm _ _ _ _).symm
          rw [← e9] at hP hD
          clear e9
          have hP : va_P (dC, dI) vwCl (WR a k h0 (fT vi 125 (nI p2125)) vj (fT vF 75 f75125) vG) H := hP
          have hD : va_D A (WR a k h0 (fT vi 125 (nI p2125)) vj (fT vF 75 f75125) vG) := hD
          have f125_0 := hw9
          try dsimp only at f125_0
          refine W.widen (k := 0) (n := 0) (by decide +kernel) (by decide +kernel) ?_
          exact W.vret hx hb hr (fun t9_ ht hW => ⟨⟨(p2125, f75125), rfl, by (try dsimp only); first | assumption | omega, by rw [ht]; exact hP, hD⟩, hS.F ht⟩) hS.2.2 dX12_sayTerm_128
      · have t_70 : (xI).toInt = -1 := toI_nne c_70 rfl (by decide)
        refine lv_aload_n hx hb dX12_sayTerm_73 rfl (lv_at hl 1 rfl) ?_
        refine lv_iload hx hb dX12_sayTerm_74 (lv_at hl 0 rfl) ?_
        refine lv_iload_n hx hb dX12_sayTerm_76 rfl (lv_at hl 3 rfl) ?_
        have hFc := allFree hD hS hA
        refine va_callv (va_runV (As := [.int aI, .int uI]) (rest := []) ⟨hx, hb, hml, hown, hts⟩ (r_X12_sayPart l dC dI a k h0 (fT vi 125 (nI j1_i125)) vj (fT vF 75 j1_F75) vG aI uI j1_i125 rfl (by first | with_reducible assumption | decide | omega | rfl | assumption) (hbaI) (hbuI) H.size) (cwV 2 hts gwsRX12_sayTerm_1 rfl rfl rfl hd_yX12_sayPart_RX12 (by decide +kernel)) (fz_pre (va_recv hK hP (ci := 12) (q0 := 0) rfl rfl) hP hK hD) rfl rfl hl.1 rfl (lv_room (Nat.le_of_ble_eq_true rfl)) dX12_sayTerm_77 (by decide +kernel)) hS (fun q _ h => hFc q h) hFc (fun u t9_ H locs ht hvm hw9 hB9 hz1 hk1 hS => ?_)
        revert u
        refine fz_p2 ?_
        intro p277 f7577 hw9 hB9
        try dsimp only at hw9 hB9
        have hP : va_P (dC, dI) vwCl (WR a k h0 (fT (fT vi 125 (nI j1_i125)) 125 (nI p277)) vj (fT (fT vF 75 j1_F75) 75 f7577) vG) H := fz_P ht hB9.1
        have hD : va_D A (WR a k h0 (fT (fT vi 125 (nI j1_i125)) 125 (nI p277)) vj (fT (fT vF 75 j1_F75) 75 f7577) vG) := hB9.2.weaken (fun _ q _ h => hFc q.1 h)
        have e9 : fT vi 125 (nI p277) = fT (fT vi 125 (nI j1_i125)) 125 (nI p277) := (fT_sm _ _ _ _).symm
        rw [← e9] at hP hD
        clear e9
        have e9 : fT vF 75 f7577 = fT (fT vF 75 j1_F75) 75 f7577 := (fT_sm _ _ _ _).symm
        rw [← e9] at hP hD
        clear e9
        have hP : va_P (dC, dI) vwCl (WR a k h0 (fT vi 125 (nI p277)) vj (fT vF 75 f7577) vG) H := hP
        have hD : va_D A (WR a k h0 (fT vi 125 (nI p277)) vj (fT vF 75 f7577) vG) := hD
        have f77_0 := hw9
        try dsimp only at f77_0
        refine W.widen (k := 0) (n := 0) (by decide +kernel) (by decide +kernel) ?_
        exact W.vret hx hb hr (fun t9_ ht hW => ⟨⟨(p277, f7577), rfl, by (try dsimp only); first | assumption | omega, by rw [ht]; exact hP, hD⟩, hS.F ht⟩) hS.2.2 dX12_sayTerm_80
theorem dX12_endLine_0 : decode cX12_endLine 0 = .ok (.aload_n 0, 1) := dk_42 (by decide +kernel)
theorem dX12_endLine_1 : decode cX12_endLine 1 = .ok (.bipush 32, 2) := dk_16 (by decide +kernel)
theorem dX12_endLine_3 : decode cX12_endLine 3 = .ok (.invokevirtual 936, 3) := dk_182 (by decide +kernel)
theorem dX12_endLine_6 : decode cX12_endLine 6 = .ok (.aload_n 0, 1) := dk_42 (by decide +kernel)
theorem dX12_endLine_7 : decode cX12_endLine 7 = .ok (.bipush 59, 2) := dk_16 (by decide +kernel)
theorem dX12_endLine_9 : decode cX12_endLine 9 = .ok (.invokevirtual 936, 3) := dk_182 (by decide +kernel)
theorem dX12_endLine_12 : decode cX12_endLine 12 = .ok (.aload_n 0, 1) := dk_42 (by decide +kernel)
theorem dX12_endLine_13 : decode cX12_endLine 13 = .ok (.bipush 10, 2) := dk_16 (by decide +kernel)
theorem dX12_endLine_15 : decode cX12_endLine 15 = .ok (.invokevirtual 936, 3) := dk_182 (by decide +kernel)
theorem dX12_endLine_18 : decode cX12_endLine 18 = .ok (.return_, 1) := dk_177 (by decide +kernel)
def wsRX12_endLine : List Cond := .code yX12_endLine cX12_endLine 1 none :: ([] ++ wsX120 ++ (wsV RX12 936 RX12 yX12_say wsRX12_say))
theorem iwsRX12_endLine_in12 : ∀ w ∈ wsX120, w ∈ wsRX12_endLine := fun _ h => List.mem_cons_of_mem _ (List.mem_append_left _ (List.mem_append_right _ h))
theorem gwsRX12_endLine_0 : GoodIn wsRX12_endLine (wsV RX12 936 RX12 yX12_say wsRX12_say) := goodIn_sub (fun _ h => List.mem_cons_of_mem _ (List.mem_append_right _ h)) (gdV (by decide +kernel) gdwsRX12_say)
theorem gdwsRX12_endLine : wsRX12_endLine.all goodWord = true := gdC rfl (gdA (gdA (by decide +kernel : ([] : List Cond).all goodWord = true) gdwsX120) (gdV (by decide +kernel) gdwsRX12_say))
set_option maxHeartbeats 4000000 in
set_option maxRecDepth 100000 in
/-- endLine() -/
theorem r_X12_endLine (l : Launch) (dC : Nat → ClassId) (dI : Nat → Nat → Nat) (a : Nat → Nat) (k : Nat → ClassId) (h0 : Nat) (vi : Nat → Int32) (vj : Nat → Int64) (vF : Nat → Nat → Int32) (vG : Nat → Nat → Int64) (pn : Nat) (hpn : vi 125 = nI pn) (hpn2 : pn ≤ 30000) (sz : Nat) : Met l yX12_endLine wsRX12_endLine ({ frames := 1, cells := 0, slots := 0, locals := 21 }) (va_Pc [.ref h0] (fun U => U.heap.size = sz ∧ va_P (dC, dI) vwCl (WR a k h0 vi vj vF vG) U.heap ∧ va_K (dC, dI) vwCl (tX12 k) U ∧ va_D (fun _ => True) (WR a k h0 vi vj vF vG))) (va_Qv (fun (u : (Nat) × (Nat → Int32)) => ((u.1) ≤ 30000)) (fun (u : (Nat) × (Nat → Int32)) t => va_P (dC, dI) vwCl (WR a k h0 (fT vi 125 (nI (u.1))) vj (fT vF 75 (u.2)) vG) t.heap ∧ va_D (va_A (WR a k h0 vi vj vF vG) sz) (WR a k h0 (fT vi 125 (nI (u.1))) vj (fT vF 75 (u.2)) vG)) (va_A (WR a k h0 vi vj vF vG) sz)) 0 0 (va_A (WR a k h0 vi vj vF vG) sz) := by
  refine Met.ofW (cc := cX12_endLine) (maxL := 1) (ret := none) (by decide) rfl ?_
  intro p e s m args below meth c s₁ B hml hv
  obtain ⟨rfl, hsz, hP, hK, hD0⟩ := hv
  have hx := B.exec
  have hb := B.bytes
  have hr := B.returns
  have hts := atoms_spec (ws := wsRX12_endLine) B.pre
  have hown : s.vm.findClass RX12 = some m.cls := findClass_of_methodNamed B.named
  have hlocks := B.notSynchronized
  subst hsz
  have hD := hD0.self (sz := s.heap.size)
  generalize hAe : va_A (WR a k h0 vi vj vF vG) s.heap.size = A at hD ⊢
  have hA : ∀ q : Nat, s.heap.size ≤ q → A q := fun q h => by rw [← hAe]; exact Or.inr h
  have hS : va_S A s.heap s.heap [] := va_S.rf
  have hl := lv_entry ([.ref h0]) (n := 1) (Nat.le_of_ble_eq_true rfl)
  rw [lg_entry_eq]
  generalize (lg_sl ([.ref h0]) ++ List.replicate (1 - (lg_sl ([.ref h0])).length) Slot.unset).toArray = ls at hl ⊢
  have hl : lv_has ls 1 [(0, .ref h0)] := hl
  refine lv_aload_n hx hb dX12_endLine_0 rfl (lv_at hl 0 rfl) ?_
  refine lv_bipush (v := 32) hx hb dX12_endLine_1 (by decide) ?_
  have hFc := allFree hD hS hA
  refine va_callv (va_runV (As := [.int 32]) (rest := []) ⟨hx, hb, hml, hown, hts⟩ (r_X12_say l dC dI a k h0 vi vj vF vG 32 pn hpn (by first | with_reducible assumption | decide | omega | rfl | assumption) s.heap.size) (cwV 1 hts gwsRX12_endLine_0 rfl rfl rfl hd_yX12_say_RX12 (by decide +kernel)) (fz_pre (va_recv hK hP (ci := 12) (q0 := 0) rfl rfl) hP hK hD) rfl rfl hl.1 rfl (lv_room (Nat.le_of_ble_eq_true rfl)) dX12_endLine_3 (by decide +kernel)) hS (fun q _ h => hFc q h) hFc (fun u t9_ H locs ht hvm hw9 hB9 hz1 hk1 hS => ?_)
  revert u
  refine fz_p2 ?_
  intro p23 f753 hw9 hB9
  try dsimp only at hw9 hB9
  have hP : va_P (dC, dI) vwCl (WR a k h0 (fT vi 125 (nI p23)) vj (fT vF 75 f753) vG) H := fz_P ht hB9.1
  have hD : va_D A (WR a k h0 (fT vi 125 (nI p23)) vj (fT vF 75 f753) vG) := hB9.2.weaken (fun _ q _ h => hFc q.1 h)
  revert hw9
  refine fz_a3 ?_
  intro f3_0 f3_1 f3_2
  refine lv_aload_n hx hb dX12_endLine_6 rfl (lv_at hl 0 rfl) ?_
  refine lv_bipush (v := 59) hx hb dX12_endLine_7 (by decide) ?_
  have hFc := allFree hD hS hA
  refine va_callv (va_runV (As := [.int 59]) (rest := []) ⟨hx, hb, hml, hown, hts⟩ (r_X12_say l dC dI a k h0 (fT vi 125 (nI p23)) vj (fT vF 75 f753) vG 59 p23 rfl (by first | with_reducible assumption | decide | omega | rfl | assumption) H.size) (cwV 1 hts gwsRX12_endLine_0 rfl rfl rfl hd_yX12_say_RX12 (by decide +kernel)) (fz_pre (va_recv hK hP (ci := 12) (q0 := 0) rfl rfl) hP hK hD) rfl rfl hl.1 rfl (lv_room (Nat.le_of_ble_eq_true rfl)) dX12_endLine_9 (by decide +kernel)) hS (fun q _ h => hFc q h) hFc (fun u t9_ H locs ht hvm hw9 hB9 hz1 hk1 hS => ?_)
  revert u
  refine fz_p2 ?_
  intro p29 f759 hw9 hB9
  try dsimp only at hw9 hB9
  have hP : va_P (dC, dI) vwCl (WR a k h0 (fT (fT vi 125 (nI p23)) 125 (nI p29)) vj (fT (fT vF 75 f753) 75 f759) vG) H := fz_P ht hB9.1
  have hD : va_D A (WR a k h0 (fT (fT vi 125 (nI p23)) 125 (nI p29)) vj (fT (fT vF 75 f753) 75 f759) vG) := hB9.2.weaken (fun _ q _ h => hFc q.1 h)
  have e9 : fT vi 125 (nI p29) = fT (fT vi 125 (nI p23)) 125 (nI p29) := (fT_sm _ _ _ _).symm
  rw [← e9] at hP hD
  clear e9
  have e9 : fT vF 75 f759 = fT (fT vF 75 f753) 75 f759 := (fT_sm _ _ _ _).symm
  rw [← e9] at hP hD
  clear e9
  have hP : va_P (dC, dI) vwCl (WR a k h0 (fT vi 125 (nI p29)) vj (fT vF 75 f759) vG) H := hP
  have hD : va_D A (WR a k h0 (fT vi 125 (nI p29)) vj (fT vF 75 f759) vG) := hD
  revert hw9
  refine fz_a3 ?_
  intro f9_0 f9_1 f9_2
  refine lv_aload_n hx hb dX12_endLine_12 rfl (lv_at hl 0 rfl) ?_
  refine lv_bipush (v := 10) hx hb dX12_endLine_13 (by decide) ?_
  have hFc := allFree hD hS hA
  refine va_callv (va_runV (As := [.int 10]) (rest := []) ⟨hx, hb, hml, hown, hts⟩ (r_X12_say l dC dI a k h0 (fT vi 125 (nI p29)) vj (fT vF 75 f759) vG 10 p29 rfl (by first | with_reducible assumption | decide | omega | rfl | assumption) H.size) (cwV 1 hts gwsRX12_endLine_0 rfl rfl rfl hd_yX12_say_RX12 (by decide +kernel)) (fz_pre (va_recv hK hP (ci := 12) (q0 := 0) rfl rfl) hP hK hD) rfl rfl hl.1 rfl (lv_room (Nat.le_of_ble_eq_true rfl)) dX12_endLine_15 (by decide +kernel)) hS (fun q _ h => hFc q h) hFc (fun u t9_ H locs ht hvm hw9 hB9 hz1 hk1 hS => ?_)
  revert u
  refine fz_p2 ?_
  intro p215 f7515 hw9 hB9
  try dsimp only at hw9 hB9
  have hP : va_P (dC, dI) vwCl (WR a k h0 (fT (fT vi 125 (nI p29)) 125 (nI p215)) vj (fT (fT vF 75 f759) 75 f7515) vG) H := fz_P ht hB9.1
  have hD : va_D A (WR a k h0 (fT (fT vi 125 (nI p29)) 125 (nI p215)) vj (fT (fT vF 75 f759) 75 f7515) vG) := hB9.2.weaken (fun _ q _ h => hFc q.1 h)
  have e9 : fT vi 125 (nI p215) = fT (fT vi 125 (nI p29)) 125 (nI p215) := (fT_sm _ _ _ _).symm
  rw [← e9] at hP hD
  clear e9
  have e9 : fT vF 75 f7515 = fT (fT vF 75 f759) 75 f7515 := (fT_sm _ _ _ _).symm
  rw [← e9] at hP hD
  clear e9
  have hP : va_P (dC, dI) vwCl (WR a k h0 (fT vi 125 (nI p215)) vj (fT vF 75 f7515) vG) H := hP
  have hD : va_D A (WR a k h0 (fT vi 125 (nI p215)) vj (fT vF 75 f7515) vG) := hD
  revert hw9
  refine fz_a3 ?_
  intro f15_0 f15_1 f15_2
  refine W.widen (k := 0) (n := 0) (by decide +kernel) (by decide +kernel) ?_
  exact W.vret hx hb hr (fun t9_ ht hW => ⟨⟨(p215, f7515), rfl, by (try dsimp only); first | assumption | omega, by rw [ht]; exact hP, hD⟩, hS.F ht⟩) hS.2.2 dX12_endLine_18
theorem dX12_sayWay_0 : decode cX12_sayWay 0 = .ok (.iconst 0, 1) := dk_3 (by decide +kernel)
theorem dX12_sayWay_1 : decode cX12_sayWay 1 = .ok (.istore_n 2, 1) := dk_61 (by decide +kernel)
theorem dX12_sayWay_2 : decode cX12_sayWay 2 = .ok (.iconst 0, 1) := dk_3 (by decide +kernel)
theorem dX12_sayWay_3 : decode cX12_sayWay 3 = .ok (.istore_n 3, 1) := dk_62 (by decide +kernel)
theorem dX12_sayWay_4 : decode cX12_sayWay 4 = .ok (.iload_n 3, 1) := dk_29 (by decide +kernel)
theorem dX12_sayWay_5 : decode cX12_sayWay 5 = .ok (.aload_n 0, 1) := dk_42 (by decide +kernel)
theorem dX12_sayWay_6 : decode cX12_sayWay 6 = .ok (.getfield 774, 3) := dk_180 (by decide +kernel)
theorem dX12_sayWay_9 : decode cX12_sayWay 9 = .ok (.if_icmp .ge 43, 3) := dk_162 (by decide +kernel)
theorem dX12_sayWay_12 : decode cX12_sayWay 12 = .ok (.aload_n 0, 1) := dk_42 (by decide +kernel)
theorem dX12_sayWay_13 : decode cX12_sayWay 13 = .ok (.getfield 203, 3) := dk_180 (by decide +kernel)
theorem dX12_sayWay_16 : decode cX12_sayWay 16 = .ok (.bipush 9, 2) := dk_16 (by decide +kernel)
theorem dX12_sayWay_18 : decode cX12_sayWay 18 = .ok (.iload_n 1, 1) := dk_27 (by decide +kernel)
theorem dX12_sayWay_19 : decode cX12_sayWay 19 = .ok (.imul, 1) := dk_104 (by decide +kernel)
theorem dX12_sayWay_20 : decode cX12_sayWay 20 = .ok (.iconst 1, 1) := dk_4 (by decide +kernel)
theorem dX12_sayWay_21 : decode cX12_sayWay 21 = .ok (.iadd, 1) := dk_96 (by decide +kernel)
theorem dX12_sayWay_22 : decode cX12_sayWay 22 = .ok (.iload_n 3, 1) := dk_29 (by decide +kernel)
theorem dX12_sayWay_23 : decode cX12_sayWay 23 = .ok (.iadd, 1) := dk_96 (by decide +kernel)
theorem dX12_sayWay_24 : decode cX12_sayWay 24 = .ok (.iaload, 1) := dk_46 (by decide +kernel)
theorem dX12_sayWay_25 : decode cX12_sayWay 25 = .ok (.istore 4, 2) := dk_54 (by decide +kernel)
theorem dX12_sayWay_27 : decode cX12_sayWay 27 = .ok (.iload 4, 2) := dk_21 (by decide +kernel)
theorem dX12_sayWay_29 : decode cX12_sayWay 29 = .ok (.ifCond .ne 6, 3) := dk_154 (by decide +kernel)
theorem dX12_sayWay_32 : decode cX12_sayWay 32 = .ok (.goto 14, 3) := dk_167 (by decide +kernel)
theorem dX12_sayWay_35 : decode cX12_sayWay 35 = .ok (.aload_n 0, 1) := dk_42 (by decide +kernel)
theorem dX12_sayWay_36 : decode cX12_sayWay 36 = .ok (.iload 4, 2) := dk_21 (by decide +kernel)
theorem dX12_sayWay_38 : decode cX12_sayWay 38 = .ok (.iconst 1, 1) := dk_4 (by decide +kernel)
theorem dX12_sayWay_39 : decode cX12_sayWay 39 = .ok (.iload_n 3, 1) := dk_29 (by decide +kernel)
theorem dX12_sayWay_40 : decode cX12_sayWay 40 = .ok (.iload_n 2, 1) := dk_28 (by decide +kernel)
theorem dX12_sayWay_41 : decode cX12_sayWay 41 = .ok (.invokevirtual 961, 3) := dk_182 (by decide +kernel)
theorem dX12_sayWay_44 : decode cX12_sayWay 44 = .ok (.iconst 1, 1) := dk_4 (by decide +kernel)
theorem dX12_sayWay_45 : decode cX12_sayWay 45 = .ok (.istore_n 2, 1) := dk_61 (by decide +kernel)
theorem dX12_sayWay_46 : decode cX12_sayWay 46 = .ok (.iinc 3 1, 3) := dk_132 (by decide +kernel)
theorem dX12_sayWay_49 : decode cX12_sayWay 49 = .ok (.goto (-45), 3) := dk_167 (by decide +kernel)
theorem dX12_sayWay_52 : decode cX12_sayWay 52 = .ok (.iload_n 2, 1) := dk_28 (by decide +kernel)
theorem dX12_sayWay_53 : decode cX12_sayWay 53 = .ok (.ifCond .ne 9, 3) := dk_154 (by decide +kernel)
theorem dX12_sayWay_56 : decode cX12_sayWay 56 = .ok (.aload_n 0, 1) := dk_42 (by decide +kernel)
theorem dX12_sayWay_57 : decode cX12_sayWay 57 = .ok (.bipush 48, 2) := dk_16 (by decide +kernel)
theorem dX12_sayWay_59 : decode cX12_sayWay 59 = .ok (.invokevirtual 936, 3) := dk_182 (by decide +kernel)
theorem dX12_sayWay_62 : decode cX12_sayWay 62 = .ok (.aload_n 0, 1) := dk_42 (by decide +kernel)
theorem dX12_sayWay_63 : decode cX12_sayWay 63 = .ok (.bipush 32, 2) := dk_16 (by decide +kernel)
theorem dX12_sayWay_65 : decode cX12_sayWay 65 = .ok (.invokevirtual 936, 3) := dk_182 (by decide +kernel)
theorem dX12_sayWay_68 : decode cX12_sayWay 68 = .ok (.aload_n 0, 1) := dk_42 (by decide +kernel)
theorem dX12_sayWay_69 : decode cX12_sayWay 69 = .ok (.getfield 206, 3) := dk_180 (by decide +kernel)
theorem dX12_sayWay_72 : decode cX12_sayWay 72 = .ok (.iload_n 1, 1) := dk_27 (by decide +kernel)
theorem dX12_sayWay_73 : decode cX12_sayWay 73 = .ok (.iaload, 1) := dk_46 (by decide +kernel)
theorem dX12_sayWay_74 : decode cX12_sayWay 74 = .ok (.istore_n 3, 1) := dk_62 (by decide +kernel)
theorem dX12_sayWay_75 : decode cX12_sayWay 75 = .ok (.aload_n 0, 1) := dk_42 (by decide +kernel)
theorem dX12_sayWay_76 : decode cX12_sayWay 76 = .ok (.iload_n 3, 1) := dk_29 (by decide +kernel)
theorem dX12_sayWay_77 : decode cX12_sayWay 77 = .ok (.ifCond .ne 8, 3) := dk_154 (by decide +kernel)
theorem dX12_sayWay_80 : decode cX12_sayWay 80 = .ok (.bipush 60, 2) := dk_16 (by decide +kernel)
theorem dX12_sayWay_82 : decode cX12_sayWay 82 = .ok (.goto 15, 3) := dk_167 (by decide +kernel)
theorem dX12_sayWay_85 : decode cX12_sayWay 85 = .ok (.iload_n 3, 1) := dk_29 (by decide +kernel)
theorem dX12_sayWay_86 : decode cX12_sayWay 86 = .ok (.iconst 1, 1) := dk_4 (by decide +kernel)
theorem dX12_sayWay_87 : decode cX12_sayWay 87 = .ok (.if_icmp .ne 8, 3) := dk_160 (by decide +kernel)
theorem dX12_sayWay_90 : decode cX12_sayWay 90 = .ok (.bipush 62, 2) := dk_16 (by decide +kernel)
theorem dX12_sayWay_92 : decode cX12_sayWay 92 = .ok (.goto 5, 3) := dk_167 (by decide +kernel)
theorem dX12_sayWay_95 : decode cX12_sayWay 95 = .ok (.bipush 61, 2) := dk_16 (by decide +kernel)
theorem dX12_sayWay_97 : decode cX12_sayWay 97 = .ok (.invokevirtual 936, 3) := dk_182 (by decide +kernel)
theorem dX12_sayWay_100 : decode cX12_sayWay 100 = .ok (.iload_n 3, 1) := dk_29 (by decide +kernel)
theorem dX12_sayWay_101 : decode cX12_sayWay 101 = .ok (.iconst 2, 1) := dk_5 (by decide +kernel)
theorem dX12_sayWay_102 : decode cX12_sayWay 102 = .ok (.if_icmp .ge 9, 3) := dk_162 (by decide +kernel)
theorem dX12_sayWay_105 : decode cX12_sayWay 105 = .ok (.aload_n 0, 1) := dk_42 (by decide +kernel)
theorem dX12_sayWay_106 : decode cX12_sayWay 106 = .ok (.bipush 61, 2) := dk_16 (by decide +kernel)
theorem dX12_sayWay_108 : decode cX12_sayWay 108 = .ok (.invokevirtual 936, 3) := dk_182 (by decide +kernel)
theorem dX12_sayWay_111 : decode cX12_sayWay 111 = .ok (.aload_n 0, 1) := dk_42 (by decide +kernel)
theorem dX12_sayWay_112 : decode cX12_sayWay 112 = .ok (.bipush 32, 2) := dk_16 (by decide +kernel)
theorem dX12_sayWay_114 : decode cX12_sayWay 114 = .ok (.invokevirtual 936, 3) := dk_182 (by decide +kernel)
theorem dX12_sayWay_117 : decode cX12_sayWay 117 = .ok (.aload_n 0, 1) := dk_42 (by decide +kernel)
theorem dX12_sayWay_118 : decode cX12_sayWay 118 = .ok (.aload_n 0, 1) := dk_42 (by decide +kernel)
theorem dX12_sayWay_119 : decode cX12_sayWay 119 = .ok (.getfield 203, 3) := dk_180 (by decide +kernel)
theorem dX12_sayWay_122 : decode cX12_sayWay 122 = .ok (.bipush 9, 2) := dk_16 (by decide +kernel)
theorem dX12_sayWay_124 : decode cX12_sayWay 124 = .ok (.iload_n 1, 1) := dk_27 (by decide +kernel)
theorem dX12_sayWay_125 : decode cX12_sayWay 125 = .ok (.imul, 1) := dk_104 (by decide +kernel)
theorem dX12_sayWay_126 : decode cX12_sayWay 126 = .ok (.iaload, 1) := dk_46 (by decide +kernel)
theorem dX12_sayWay_127 : decode cX12_sayWay 127 = .ok (.invokevirtual 955, 3) := dk_182 (by decide +kernel)
theorem dX12_sayWay_130 : decode cX12_sayWay 130 = .ok (.return_, 1) := dk_177 (by decide +kernel)
def wsRX12_sayWay : List Cond := .code yX12_sayWay cX12_sayWay 5 none :: ([.fieldLink RX12 774 "OptimaWorksModel" "variables" "I", .fieldLink RX12 206 "OptimaWorksModel" "waySign" "[I", .fieldLink RX12 203 "OptimaWorksModel" "wayNumber" "[I"] ++ wsX120 ++ (wsV RX12 936 RX12 yX12_say wsRX12_say) ++ (wsV RX12 955 RX12 yX12_sayNumber wsRX12_sayNumber) ++ (wsV RX12 961 RX12 yX12_sayTerm wsRX12_sayTerm))
theorem iwsRX12_sayWay_in12 : ∀ w ∈ wsX120, w ∈ wsRX12_sayWay := fun _ h => List.mem_cons_of_mem _ (List.mem_append_left _ (List.mem_append_left _ (List.mem_append_left _ (List.mem_append_right _ h))))
theorem gwsRX12_sayWay_0 : GoodIn wsRX12_sayWay (wsV RX12 936 RX12 yX12_say wsRX12_say) := goodIn_sub (fun _ h => List.mem_cons_of_mem _ (List.mem_append_left _ (List.mem_append_left _ (List.mem_append_right _ h)))) (gdV (by decide +kernel) gdwsRX12_say)
theorem gwsRX12_sayWay_1 : GoodIn wsRX12_sayWay (wsV RX12 955 RX12 yX12_sayNumber wsRX12_sayNumber) := goodIn_sub (fun _ h => List.mem_cons_of_mem _ (List.mem_append_left _ (List.mem_append_right _ h))) (gdV (by decide +kernel) gdwsRX12_sayNumber)
theorem gwsRX12_sayWay_2 : GoodIn wsRX12_sayWay (wsV RX12 961 RX12 yX12_sayTerm wsRX12_sayTerm) := goodIn_sub (fun _ h => List.mem_cons_of_mem _ (List.mem_append_right _ h)) (gdV (by decide +kernel) gdwsRX12_sayTerm)
theorem gdwsRX12_sayWay : wsRX12_sayWay.all goodWord = true := gdC rfl (gdA (gdA (gdA (gdA (by decide +kernel : ([.fieldLink RX12 774 "OptimaWorksModel" "variables" "I", .fieldLink RX12 206 "OptimaWorksModel" "waySign" "[I", .fieldLink RX12 203 "OptimaWorksModel" "wayNumber" "[I"] : List Cond).all goodWord = true) gdwsX120) (gdV (by decide +kernel) gdwsRX12_say)) (gdV (by decide +kernel) gdwsRX12_sayNumber)) (gdV (by decide +kernel) gdwsRX12_sayTerm))
set_option maxHeartbeats 4000000 in
set_option maxRecDepth 100000 in
/-- sayWay(w) -/
theorem r_X12_sayWay (l : Launch) (dC : Nat → ClassId) (dI : Nat → Nat → Nat) (a : Nat → Nat) (k : Nat → ClassId) (h0 : Nat) (vi : Nat → Int32) (vj : Nat → Int64) (vF : Nat → Nat → Int32) (vG : Nat → Nat → Int64) (wn : Nat) (vn : Nat) (gq : Nat) (pn : Nat) (hpn : vi 125 = nI pn) (hpn2 : pn ≤ 30000) (hvn : vi 90 = nI vn) (hvn8 : vn ≤ 8) (hM : MdlB vF gq) (hwn : wn < 39) (sz : Nat) : Met l yX12_sayWay wsRX12_sayWay ({ frames := 4, cells := 0, slots := 0, locals := 91 }) (va_Pc [.ref h0, .int (nI wn)] (fun U => U.heap.size = sz ∧ va_P (dC, dI) vwCl (WR a k h0 vi vj vF vG) U.heap ∧ va_K (dC, dI) vwCl (tX12 k) U ∧ va_D (fun _ => True) (WR a k h0 vi vj vF vG))) (va_Qv (fun (u : (Nat) × (Nat → Int32)) => ((u.1) ≤ 30000)) (fun (u : (Nat) × (Nat → Int32)) t => va_P (dC, dI) vwCl (WR a k h0 (fT vi 125 (nI (u.1))) vj (fT vF 75 (u.2)) vG) t.heap ∧ va_D (va_A (WR a k h0 vi vj vF vG) sz) (WR a k h0 (fT vi 125 (nI (u.1))) vj (fT vF 75 (u.2)) vG)) (va_A (WR a k h0 vi vj vF vG) sz)) 0 0 (va_A (WR a k h0 vi vj vF vG) sz) := by
  refine Met.ofW (cc := cX12_sayWay) (maxL := 5) (ret := none) (by decide) rfl ?_
  intro p e s m args below meth c s₁ B hml hv
  obtain ⟨rfl, hsz, hP, hK, hD0⟩ := hv
  have hx := B.exec
  have hb := B.bytes
  have hr := B.returns
  have hts := atoms_spec (ws := wsRX12_sayWay) B.pre
  have hown : s.vm.findClass RX12 = some m.cls := findClass_of_methodNamed B.named
  have hlocks := B.notSynchronized
  subst hsz
  have hD := hD0.self (sz := s.heap.size)
  generalize hAe : va_A (WR a k h0 vi vj vF vG) s.heap.size = A at hD ⊢
  have hA : ∀ q : Nat, s.heap.size ≤ q → A q := fun q h => by rw [← hAe]; exact Or.inr h
  have hS : va_S A s.heap s.heap [] := va_S.rf
  have hl := lv_entry ([.ref h0, .int (nI wn)]) (n := 5) (Nat.le_of_ble_eq_true rfl)
  rw [lg_entry_eq]
  generalize (lg_sl ([.ref h0, .int (nI wn)]) ++ List.replicate (5 - (lg_sl ([.ref h0, .int (nI wn)])).length) Slot.unset).toArray = ls at hl ⊢
  have hl : lv_has ls 5 [(0, .ref h0), (1, .int (nI wn))] := hl
  refine lv_iconst (v := 0) hx hb dX12_sayWay_0 (by decide) ?_
  refine lv_istore_n hx hb dX12_sayWay_1 rfl hl (by decide) rfl (fun ls (hl : lv_has ls _ ([(2, .int 0), (0, .ref h0), (1, .int (nI wn))])) => ?_)
  refine lv_iconst (v := 0) hx hb dX12_sayWay_2 (by decide) ?_
  refine lv_istore_n hx hb dX12_sayWay_3 rfl hl (by decide) rfl (fun ls (hl : lv_has ls _ ([(3, .int 0), (2, .int 0), (0, .ref h0), (1, .int (nI wn))])) => ?_)
  have e9 : fT vi 125 (nI pn) = vi := by funext q9; by_cases h9_125 : q9 = 125; (subst h9_125; exact (fT_eq _ _ _).trans (Eq.trans (by first | with_reducible rfl | with_reducible assumption | (symm; with_reducible assumption) | rfl | assumption | (symm; assumption) | (subst_vars; rfl)) (Eq.refl _).symm)); exact (fT_ne _ _ h9_125).trans (Eq.refl _).symm
  have hP : va_P (dC, dI) vwCl (WR a k h0 (fT vi 125 (nI pn)) vj vF vG) s.heap := by rw [e9]; exact hP
  have hD : va_D A (WR a k h0 (fT vi 125 (nI pn)) vj vF vG) := by rw [e9]; exact hD
  clear e9
  have e9 : fT vF 75 (vF 75) = vF := by funext q9; by_cases h9_75 : q9 = 75; (subst h9_75; exact (fT_eq _ _ _).trans (Eq.trans (by first | with_reducible rfl | with_reducible assumption | (symm; with_reducible assumption) | rfl | assumption | (symm; assumption) | (subst_vars; rfl)) (Eq.refl _).symm)); exact (fT_ne _ _ h9_75).trans (Eq.refl _).symm
  have hP : va_P (dC, dI) vwCl (WR a k h0 (fT vi 125 (nI pn)) vj (fT vF 75 (vF 75)) vG) s.heap := by rw [e9]; exact hP
  have hD : va_D A (WR a k h0 (fT vi 125 (nI pn)) vj (fT vF 75 (vF 75)) vG) := by rw [e9]; exact hD
  clear e9
  have hl : lv_has _ _ ([(0, .ref h0), (1, .int (nI wn)), (2, .int 0), (3, .int (nI 0))]) := lv_sub hl [2, 3, 1, 0] rfl
  refine (fun (loop : ∀ (n9 : Nat) (k5 : Nat) (so : Int32) (x4_i125 : Nat) (x4_F75 : Nat → Int32) (H : Heap) (locs : List Loc) (ls : Array Slot), (k5 ≤ vn) → (x4_i125 ≤ 30000) →  (vn < k5 + n9) → va_P (dC, dI) vwCl (WR a k h0 (fT vi 125 (nI x4_i125)) vj (fT vF 75 x4_F75) vG) H → va_D A (WR a k h0 (fT vi 125 (nI x4_i125)) vj (fT vF 75 x4_F75) vG) → va_S A s.heap H locs → lv_has ls 5 [(0, .ref h0), (1, .int (nI wn)), (2, .int so), (3, .int (nI k5))] → W p l e _ s m _ below meth c H locs 0 0 _ (F0 m 4 ls [])) => loop (vn + 1) 0 0 pn (vF 75) _ _ _ (by omega) (by first | with_reducible assumption | omega | assumption) (by omega) hP hD hS hl) ?_
  intro n9
  induction n9 with
  | zero => intro k5 so x4_i125 x4_F75 H locs ls hk5 hx4_i125 hf9; exact False.elim (by omega)
  | succ n9 ih4 =>
    intro k5 so x4_i125 x4_F75 H locs ls hk5 hx4_i125 hf4 hP hD hS hl
    refine lv_iload_n hx hb dX12_sayWay_4 rfl (lv_at hl 3 rfl) ?_
    refine lv_aload_n hx hb dX12_sayWay_5 rfl (lv_at hl 0 rfl) ?_
    refine va_get (D := (dC, dI)) (ci := 12) (v := .int (vi 90)) (C := RX12) (T := TX12) (N := 163) (fs := fM (vS a (fT vi 125 (nI x4_i125)) vj)) hx hb hts iwsRX12_sayWay_in12 hown hK hP 0 rfl rfl 90 (by decide) (hts (.fieldLink RX12 774 "OptimaWorksModel" "variables" "I") (by decide +kernel)) (fun _ h9 => h9) rfl dX12_sayWay_6 ?_
    refine lv_topi (fun y1 hy1 => ?_)
    obtain rfl : (nI vn) = y1 := (hy1.trans (hvn)).symm
    refine lv_icmp_ge (tgt := 52) hx hb dX12_sayWay_9 (by decide) (fun c_9 => ?_) (fun c_9 => ?_)
    · have t_9 : ((k5 : Nat) : Int) ≥ ((vn : Nat) : Int) := toI_ge c_9 (nI_toInt (by omega)) (nI_toInt (by omega))
      refine lv_iload_n hx hb dX12_sayWay_52 rfl (lv_at hl 2 rfl) ?_
      refine W.cut (pc := 62) (fun H locs ls stk => ∃ (j5_i125 : Nat) (j5_F75 : Nat → Int32), (j5_i125 ≤ 30000) ∧  stk = [] ∧ va_P (dC, dI) vwCl (WR a k h0 (fT vi 125 (nI j5_i125)) vj (fT vF 75 j5_F75) vG) H ∧ va_D A (WR a k h0 (fT vi 125 (nI j5_i125)) vj (fT vF 75 j5_F75) vG) ∧ va_S A s.heap H locs ∧ lv_has ls 5 [(0, .ref h0), (1, .int (nI wn)), (2, .int so), (3, .int (nI k5))]) (fun join1 => ?_) ?_
      · refine lv_if_ne (tgt := 62) hx hb dX12_sayWay_53 (by decide) (fun c_53 => ?_) (fun c_53 => ?_)
        · have t_53 : (so).toInt ≠ 0 := toI_ne c_53 rfl (by decide)
          have hl : lv_has _ _ ([(0, .ref h0), (1, .int (nI wn)), (2, .int so), (3, .int (nI k5))]) := lv_sub hl [0, 1, 2, 3] rfl
          exact join1 _ _ _ _ ⟨x4_i125, x4_F75, by first | assumption | omega, rfl, hP, hD, hS, hl⟩
        · have t_53 : (so).toInt = 0 := toI_nne c_53 rfl (by decide)
          refine lv_aload_n hx hb dX12_sayWay_56 rfl (lv_at hl 0 rfl) ?_
          refine lv_bipush (v := 48) hx hb dX12_sayWay_57 (by decide) ?_
          have hFc := allFree hD hS hA
          refine va_callv (va_runV (As := [.int 48]) (rest := []) ⟨hx, hb, hml, hown, hts⟩ (r_X12_say l dC dI a k h0 (fT vi 125 (nI x4_i125)) vj (fT vF 75 x4_F75) vG 48 x4_i125 rfl (by first | with_reducible assumption | decide | omega | rfl | assumption) H.size) (cwV 1 hts gwsRX12_sayWay_0 rfl rfl rfl hd_yX12_say_RX12 (by decide +kernel)) (fz_pre (va_recv hK hP (ci := 12) (q0 := 0) rfl rfl) hP hK hD) rfl rfl hl.1 rfl (lv_room (Nat.le_of_ble_eq_true rfl)) dX12_sayWay_59 (by decide +kernel)) hS (fun q _ h => hFc q h) hFc (fun u t9_ H locs ht hvm hw9 hB9 hz1 hk1 hS => ?_)
          revert u
          refine fz_p2 ?_
          intro p259 f7559 hw9 hB9
          try dsimp only at hw9 hB9
          have hP : va_P (dC, dI) vwCl (WR a k h0 (fT (fT vi 125 (nI x4_i125)) 125 (nI p259)) vj (fT (fT vF 75 x4_F75) 75 f7559) vG) H := fz_P ht hB9.1
          have hD : va_D A (WR a k h0 (fT (fT vi 125 (nI x4_i125)) 125 (nI p259)) vj (fT (fT vF 75 x4_F75) 75 f7559) vG) := hB9.2.weaken (fun _ q _ h => hFc q.1 h)
          have e9 : fT vi 125 (nI p259) = fT (fT vi 125 (nI x4_i125)) 125 (nI p259) := (fT_sm _ _ _ _).symm
          rw [← e9] at hP hD
          clear e9
          have e9 : fT vF 75 f7559 = fT (fT vF 75 x4_F75) 75 f7559 := (fT_sm _ _ _ _).symm
          rw [← e9] at hP hD
          clear e9
          have hP : va_P (dC, dI) vwCl (WR a k h0 (fT vi 125 (nI p259)) vj (fT vF 75 f7559) vG) H := hP
          have hD : va_D A (WR a k h0 (fT vi 125 (nI p259)) vj (fT vF 75 f7559) vG) := hD
          revert hw9
          refine fz_a3 ?_
          intro f59_0 f59_1 f59_2
          have hl : lv_has _ _ ([(0, .ref h0), (1, .int (nI wn)), (2, .int so), (3, .int (nI k5))]) := lv_sub hl [0, 1, 2, 3] rfl
          exact join1 _ _ _ _ ⟨p259, f7559, by first | assumption | omega, rfl, hP, hD, hS, hl⟩
      · rintro H locs ls stk ⟨j5_i125, j5_F75, hj5_i125, rfl, hP, hD, hS, hl⟩
        refine lv_aload_n hx hb dX12_sayWay_62 rfl (lv_at hl 0 rfl) ?_
        refine lv_bipush (v := 32) hx hb dX12_sayWay_63 (by decide) ?_
        have hFc := allFree hD hS hA
        refine va_callv (va_runV (As := [.int 32]) (rest := []) ⟨hx, hb, hml, hown, hts⟩ (r_X12_say l dC dI a k h0 (fT vi 125 (nI j5_i125)) vj (fT vF 75 j5_F75) vG 32 j5_i125 rfl (by first | with_reducible assumption | decide | omega | rfl | assumption) H.size) (cwV 1 hts gwsRX12_sayWay_0 rfl rfl rfl hd_yX12_say_RX12 (by decide +kernel)) (fz_pre (va_recv hK hP (ci := 12) (q0 := 0) rfl rfl) hP hK hD) rfl rfl hl.1 rfl (lv_room (Nat.le_of_ble_eq_true rfl)) dX12_sayWay_65 (by decide +kernel)) hS (fun q _ h => hFc q h) hFc (fun u t9_ H locs ht hvm hw9 hB9 hz1 hk1 hS => ?_)
        revert u
        refine fz_p2 ?_
        intro p265 f7565 hw9 hB9
        try dsimp only at hw9 hB9
        have hP : va_P (dC, dI) vwCl (WR a k h0 (fT (fT vi 125 (nI j5_i125)) 125 (nI p265)) vj (fT (fT vF 75 j5_F75) 75 f7565) vG) H := fz_P ht hB9.1
        have hD : va_D A (WR a k h0 (fT (fT vi 125 (nI j5_i125)) 125 (nI p265)) vj (fT (fT vF 75 j5_F75) 75 f7565) vG) := hB9.2.weaken (fun _ q _ h => hFc q.1 h)
        have e9 : fT vi 125 (nI p265) = fT (fT vi 125 (nI j5_i125)) 125 (nI p265) := (fT_sm _ _ _ _).symm
        rw [← e9] at hP hD
        clear e9
        have e9 : fT vF 75 f7565 = fT (fT vF 75 j5_F75) 75 f7565 := (fT_sm _ _ _ _).symm
        rw [← e9] at hP hD
        clear e9
        have hP : va_P (dC, dI) vwCl (WR a k h0 (fT vi 125 (nI p265)) vj (fT vF 75 f7565) vG) H := hP
        have hD : va_D A (WR a k h0 (fT vi 125 (nI p265)) vj (fT vF 75 f7565) vG) := hD
        revert hw9
        refine fz_a3 ?_
        intro f65_0 f65_1 f65_2
        refine lv_aload_n hx hb dX12_sayWay_68 rfl (lv_at hl 0 rfl) ?_
        refine va_get (D := (dC, dI)) (ci := 12) (v := .ref (a 61)) (C := RX12) (T := TX12) (N := 163) (fs := fM (vS a (fT vi 125 (nI p265)) vj)) hx hb hts iwsRX12_sayWay_in12 hown hK hP 0 rfl rfl 101 (by decide) (hts (.fieldLink RX12 206 "OptimaWorksModel" "waySign" "[I") (by decide +kernel)) (fun _ h9 => h9) rfl dX12_sayWay_69 ?_
        refine lv_iload_n hx hb dX12_sayWay_72 rfl (lv_at hl 1 rfl) ?_
        refine va_iald (cA := k 61) (n := 39) (f := (vF 61)) hx hb hK hP 62 61 (WR_get 61 (by decide)) (TR_get 61 (by decide)) (vp_in_nI (show wn < 39 by omega) (by omega)) dX12_sayWay_73 ?_
        refine lv_topi (fun y2 hy2 => ?_)
        obtain rfl : ((vF 61) wn) = y2 := (hy2.trans (by rw [nI_clamp (by omega)])).symm
        refine lv_istore_n hx hb dX12_sayWay_74 rfl hl (by decide) rfl (fun ls (hl : lv_has ls _ ([(3, .int ((vF 61) wn)), (0, .ref h0), (1, .int (nI wn)), (2, .int so)])) => ?_)
        refine lv_aload_n hx hb dX12_sayWay_75 rfl (lv_at hl 1 rfl) ?_
        refine lv_iload_n hx hb dX12_sayWay_76 rfl (lv_at hl 0 rfl) ?_
        refine W.cut (pc := 97) (fun H locs ls stk => ∃ (j6_s0 : Int32),  stk = [.int j6_s0, .ref h0] ∧ va_P (dC, dI) vwCl (WR a k h0 (fT vi 125 (nI p265)) vj (fT vF 75 f7565) vG) H ∧ va_D A (WR a k h0 (fT vi 125 (nI p265)) vj (fT vF 75 f7565) vG) ∧ va_S A s.heap H locs ∧ lv_has ls 5 [(3, .int ((vF 61) wn)), (0, .ref h0), (1, .int (nI wn)), (2, .int so)]) (fun join2 => ?_) ?_
        · refine lv_if_ne (tgt := 85) hx hb dX12_sayWay_77 (by decide) (fun c_77 => ?_) (fun c_77 => ?_)
          · have t_77 : (((vF 61) wn)).toInt ≠ 0 := toI_ne c_77 rfl (by decide)
            refine lv_iload_n hx hb dX12_sayWay_85 rfl (lv_at hl 0 rfl) ?_
            refine lv_iconst (v := 1) hx hb dX12_sayWay_86 (by decide) ?_
            refine lv_icmp_ne (tgt := 95) hx hb dX12_sayWay_87 (by decide) (fun c_87 => ?_) (fun c_87 => ?_)
            · have t_87 : (((vF 61) wn)).toInt ≠ 1 := toI_ne c_87 rfl (by decide)
              refine lv_bipush (v := 61) hx hb dX12_sayWay_95 (by decide) ?_
              have hl : lv_has _ _ ([(3, .int ((vF 61) wn)), (0, .ref h0), (1, .int (nI wn)), (2, .int so)]) := lv_sub hl [0, 1, 2, 3] rfl
              exact join2 _ _ _ _ ⟨61, rfl, hP, hD, hS, hl⟩
            · have t_87 : (((vF 61) wn)).toInt = 1 := toI_nne c_87 rfl (by decide)
              refine lv_bipush (v := 62) hx hb dX12_sayWay_90 (by decide) ?_
              refine lv_goto (tgt := 97) hx hb dX12_sayWay_92 (by decide) ?_
              have hl : lv_has _ _ ([(3, .int ((vF 61) wn)), (0, .ref h0), (1, .int (nI wn)), (2, .int so)]) := lv_sub hl [0, 1, 2, 3] rfl
              exact join2 _ _ _ _ ⟨62, rfl, hP, hD, hS, hl⟩
          · have t_77 : (((vF 61) wn)).toInt = 0 := toI_nne c_77 rfl (by decide)
            refine lv_bipush (v := 60) hx hb dX12_sayWay_80 (by decide) ?_
            refine lv_goto (tgt := 97) hx hb dX12_sayWay_82 (by decide) ?_
            have hl : lv_has _ _ ([(3, .int ((vF 61) wn)), (0, .ref h0), (1, .int (nI wn)), (2, .int so)]) := lv_sub hl [0, 1, 2, 3] rfl
            exact join2 _ _ _ _ ⟨60, rfl, hP, hD, hS, hl⟩
        · rintro H locs ls stk ⟨j6_s0, rfl, hP, hD, hS, hl⟩
          have hFc := allFree hD hS hA
          refine va_callv (va_runV (As := [.int j6_s0]) (rest := []) ⟨hx, hb, hml, hown, hts⟩ (r_X12_say l dC dI a k h0 (fT vi 125 (nI p265)) vj (fT vF 75 f7565) vG j6_s0 p265 rfl (by first | with_reducible assumption | decide | omega | rfl | assumption) H.size) (cwV 1 hts gwsRX12_sayWay_0 rfl rfl rfl hd_yX12_say_RX12 (by decide +kernel)) (fz_pre (va_recv hK hP (ci := 12) (q0 := 0) rfl rfl) hP hK hD) rfl rfl hl.1 rfl (lv_room (Nat.le_of_ble_eq_true rfl)) dX12_sayWay_97 (by decide +kernel)) hS (fun q _ h => hFc q h) hFc (fun u t9_ H locs ht hvm hw9 hB9 hz1 hk1 hS => ?_)
          revert u
          refine fz_p2 ?_
          intro p297 f7597 hw9 hB9
          try dsimp only at hw9 hB9
          have hP : va_P (dC, dI) vwCl (WR a k h0 (fT (fT vi 125 (nI p265)) 125 (nI p297)) vj (fT (fT vF 75 f7565) 75 f7597) vG) H := fz_P ht hB9.1
          have hD : va_D A (WR a k h0 (fT (fT vi 125 (nI p265)) 125 (nI p297)) vj (fT (fT vF 75 f7565) 75 f7597) vG) := hB9.2.weaken (fun _ q _ h => hFc q.1 h)
          have e9 : fT vi 125 (nI p297) = fT (fT vi 125 (nI p265)) 125 (nI p297) := (fT_sm _ _ _ _).symm
          rw [← e9] at hP hD
          clear e9
          have e9 : fT vF 75 f7597 = fT (fT vF 75 f7565) 75 f7597 := (fT_sm _ _ _ _).symm
          rw [← e9] at hP hD
          clear e9
          have hP : va_P (dC, dI) vwCl (WR a k h0 (fT vi 125 (nI p297)) vj (fT vF 75 f7597) vG) H := hP
          have hD : va_D A (WR a k h0 (fT vi 125 (nI p297)) vj (fT vF 75 f7597) vG) := hD
          revert hw9
          refine fz_a3 ?_
          intro f97_0 f97_1 f97_2
          refine lv_iload_n hx hb dX12_sayWay_100 rfl (lv_at hl 0 rfl) ?_
          refine lv_iconst (v := 2) hx hb dX12_sayWay_101 (by decide) ?_
          refine W.cut (pc := 111) (fun H locs ls stk => ∃ (j7_i125 : Nat) (j7_F75 : Nat → Int32), (j7_i125 ≤ 30000) ∧  stk = [] ∧ va_P (dC, dI) vwCl (WR a k h0 (fT vi 125 (nI j7_i125)) vj (fT vF 75 j7_F75) vG) H ∧ va_D A (WR a k h0 (fT vi 125 (nI j7_i125)) vj (fT vF 75 j7_F75) vG) ∧ va_S A s.heap H locs ∧ lv_has ls 5 [(3, .int ((vF 61) wn)), (0, .ref h0), (1, .int (nI wn)), (2, .int so)]) (fun join3 => ?_) ?_
          · refine lv_icmp_ge (tgt := 111) hx hb dX12_sayWay_102 (by decide) (fun c_102 => ?_) (fun c_102 => ?_)
            · have t_102 : (((vF 61) wn)).toInt ≥ 2 := toI_ge c_102 rfl (by decide)
              have hl : lv_has _ _ ([(3, .int ((vF 61) wn)), (0, .ref h0), (1, .int (nI wn)), (2, .int so)]) := lv_sub hl [0, 1, 2, 3] rfl
              exact join3 _ _ _ _ ⟨p297, f7597, by first | assumption | omega, rfl, hP, hD, hS, hl⟩
            · have t_102 : ¬ (((vF 61) wn)).toInt ≥ 2 := toI_nge c_102 rfl (by decide)
              refine lv_aload_n hx hb dX12_sayWay_105 rfl (lv_at hl 1 rfl) ?_
              refine lv_bipush (v := 61) hx hb dX12_sayWay_106 (by decide) ?_
              have hFc := allFree hD hS hA
              refine va_callv (va_runV (As := [.int 61]) (rest := []) ⟨hx, hb, hml, hown, hts⟩ (r_X12_say l dC dI a k h0 (fT vi 125 (nI p297)) vj (fT vF 75 f7597) vG 61 p297 rfl (by first | with_reducible assumption | decide | omega | rfl | assumption) H.size) (cwV 1 hts gwsRX12_sayWay_0 rfl rfl rfl hd_yX12_say_RX12 (by decide +kernel)) (fz_pre (va_recv hK hP (ci := 12) (q0 := 0) rfl rfl) hP hK hD) rfl rfl hl.1 rfl (lv_room (Nat.le_of_ble_eq_true rfl)) dX12_sayWay_108 (by decide +kernel)) hS (fun q _ h => hFc q h) hFc (fun u t9_ H locs ht hvm hw9 hB9 hz1 hk1 hS => ?_)
              revert u
              refine fz_p2 ?_
              intro p2108 f75108 hw9 hB9
              try dsimp only at hw9 hB9
              have hP : va_P (dC, dI) vwCl (WR a k h0 (fT (fT vi 125 (nI p297)) 125 (nI p2108)) vj (fT (fT vF 75 f7597) 75 f75108) vG) H := fz_P ht hB9.1
              have hD : va_D A (WR a k h0 (fT (fT vi 125 (nI p297)) 125 (nI p2108)) vj (fT (fT vF 75 f7597) 75 f75108) vG) := hB9.2.weaken (fun _ q _ h => hFc q.1 h)
              have e9 : fT vi 125 (nI p2108) = fT (fT vi 125 (nI p297)) 125 (nI p2108) := (fT_sm _ _ _ _).symm
              rw [← e9] at hP hD
              clear e9
              have e9 : fT vF 75 f75108 = fT (fT vF 75 f7597) 75 f75108 := (fT_sm _ _ _ _).symm
              rw [← e9] at hP hD
              clear e9
              have hP : va_P (dC, dI) vwCl (WR a k h0 (fT vi 125 (nI p2108)) vj (fT vF 75 f75108) vG) H := hP
              have hD : va_D A (WR a k h0 (fT vi 125 (nI p2108)) vj (fT vF 75 f75108) vG) := hD
              revert hw9
              refine fz_a3 ?_
              intro f108_0 f108_1 f108_2
              have hl : lv_has _ _ ([(3, .int ((vF 61) wn)), (0, .ref h0), (1, .int (nI wn)), (2, .int so)]) := lv_sub hl [0, 1, 2, 3] rfl
              exact join3 _ _ _ _ ⟨p2108, f75108, by first | assumption | omega, rfl, hP, hD, hS, hl⟩
          · rintro H locs ls stk ⟨j7_i125, j7_F75, hj7_i125, rfl, hP, hD, hS, hl⟩
            have bs := hM.2.2.1 wn hwn
            refine lv_aload_n hx hb dX12_sayWay_111 rfl (lv_at hl 1 rfl) ?_
            refine lv_bipush (v := 32) hx hb dX12_sayWay_112 (by decide) ?_
            have hFc := allFree hD hS hA
            refine va_callv (va_runV (As := [.int 32]) (rest := []) ⟨hx, hb, hml, hown, hts⟩ (r_X12_say l dC dI a k h0 (fT vi 125 (nI j7_i125)) vj (fT vF 75 j7_F75) vG 32 j7_i125 rfl (by first | with_reducible assumption | decide | omega | rfl | assumption) H.size) (cwV 1 hts gwsRX12_sayWay_0 rfl rfl rfl hd_yX12_say_RX12 (by decide +kernel)) (fz_pre (va_recv hK hP (ci := 12) (q0 := 0) rfl rfl) hP hK hD) rfl rfl hl.1 rfl (lv_room (Nat.le_of_ble_eq_true rfl)) dX12_sayWay_114 (by decide +kernel)) hS (fun q _ h => hFc q h) hFc (fun u t9_ H locs ht hvm hw9 hB9 hz1 hk1 hS => ?_)
            revert u
            refine fz_p2 ?_
            intro p2114 f75114 hw9 hB9
            try dsimp only at hw9 hB9
            have hP : va_P (dC, dI) vwCl (WR a k h0 (fT (fT vi 125 (nI j7_i125)) 125 (nI p2114)) vj (fT (fT vF 75 j7_F75) 75 f75114) vG) H := fz_P ht hB9.1
            have hD : va_D A (WR a k h0 (fT (fT vi 125 (nI j7_i125)) 125 (nI p2114)) vj (fT (fT vF 75 j7_F75) 75 f75114) vG) := hB9.2.weaken (fun _ q _ h => hFc q.1 h)
            have e9 : fT vi 125 (nI p2114) = fT (fT vi 125 (nI j7_i125)) 125 (nI p2114) := (fT_sm _ _ _ _).symm
            rw [← e9] at hP hD
            clear e9
            have e9 : fT vF 75 f75114 = fT (fT vF 75 j7_F75) 75 f75114 := (fT_sm _ _ _ _).symm
            rw [← e9] at hP hD
            clear e9
            have hP : va_P (dC, dI) vwCl (WR a k h0 (fT vi 125 (nI p2114)) vj (fT vF 75 f75114) vG) H := hP
            have hD : va_D A (WR a k h0 (fT vi 125 (nI p2114)) vj (fT vF 75 f75114) vG) := hD
            revert hw9
            refine fz_a3 ?_
            intro f114_0 f114_1 f114_2
            refine lv_aload_n hx hb dX12_sayWay_117 rfl (lv_at hl 1 rfl) ?_
            refine lv_aload_n hx hb dX12_sayWay_118 rfl (lv_at hl 1 rfl) ?_
            refine va_get (D := (dC, dI)) (ci := 12) (v := .ref (a 60)) (C := RX12) (T := TX12) (N := 163) (fs := fM (vS a (fT vi 125 (nI p2114)) vj)) hx hb hts iwsRX12_sayWay_in12 hown hK hP 0 rfl rfl 100 (by decide) (hts (.fieldLink RX12 203 "OptimaWorksModel" "wayNumber" "[I") (by decide +kernel)) (fun _ h9 => h9) rfl dX12_sayWay_119 ?_
            refine lv_bipush (v := 9) hx hb dX12_sayWay_122 (by decide) ?_
            refine lv_iload_n hx hb dX12_sayWay_124 rfl (lv_at hl 2 rfl) ?_
            refine lv_imul hx hb dX12_sayWay_125 ?_
            refine lv_topi (fun y3 hy3 => ?_)
            obtain rfl : (nI (9 * wn)) = y3 := (hy3.trans (pk_mul 9 wn)).symm
            refine va_iald (cA := k 60) (n := 351) (f := (vF 60)) hx hb hK hP 61 60 (WR_get 60 (by decide)) (TR_get 60 (by decide)) (vp_in_nI (show (9 * wn) < 351 by omega) (by omega)) dX12_sayWay_126 ?_
            refine lv_topi (fun y4 hy4 => ?_)
            obtain rfl : ((vF 60) (9 * wn)) = y4 := (hy4.trans (by rw [nI_clamp (by omega)])).symm
            have hFc := allFree hD hS hA
            refine va_callv (va_runV (As := [.int ((vF 60) (9 * wn))]) (rest := []) ⟨hx, hb, hml, hown, hts⟩ (r_X12_sayNumber l dC dI a k h0 (fT vi 125 (nI p2114)) vj (fT vF 75 f75114) vG ((vF 60) (9 * wn)) p2114 rfl (by first | with_reducible assumption | decide | omega | rfl | assumption) (by omega) H.size) (cwV 1 hts gwsRX12_sayWay_1 rfl rfl rfl hd_yX12_sayNumber_RX12 (by decide +kernel)) (fz_pre (va_recv hK hP (ci := 12) (q0 := 0) rfl rfl) hP hK hD) rfl rfl hl.1 rfl (lv_room (Nat.le_of_ble_eq_true rfl)) dX12_sayWay_127 (by decide +kernel)) hS (fun q _ h => hFc q h) hFc (fun u t9_ H locs ht hvm hw9 hB9 hz1 hk1 hS => ?_)
            revert u
            refine fz_p2 ?_
            intro p2127 f75127 hw9 hB9
            try dsimp only at hw9 hB9
            have hP : va_P (dC, dI) vwCl (WR a k h0 (fT (fT vi 125 (nI p2114)) 125 (nI p2127)) vj (fT (fT vF 75 f75114) 75 f75127) vG) H := fz_P ht hB9.1
            have hD : va_D A (WR a k h0 (fT (fT vi 125 (nI p2114)) 125 (nI p2127)) vj (fT (fT vF 75 f75114) 75 f75127) vG) := hB9.2.weaken (fun _ q _ h => hFc q.1 h)
            have e9 : fT vi 125 (nI p2127) = fT (fT vi 125 (nI p2114)) 125 (nI p2127) := (fT_sm _ _ _ _).symm
            rw [← e9] at hP hD
            clear e9
            have e9 : fT vF 75 f75127 = fT (fT vF 75 f75114) 75 f75127 := (fT_sm _ _ _ _).symm
            rw [← e9] at hP hD
            clear e9
            have hP : va_P (dC, dI) vwCl (WR a k h0 (fT vi 125 (nI p2127)) vj (fT vF 75 f75127) vG) H := hP
            have hD : va_D A (WR a k h0 (fT vi 125 (nI p2127)) vj (fT vF 75 f75127) vG) := hD
            have f127_0 := hw9
            try dsimp only at f127_0
            refine W.widen (k := 0) (n := 0) (by decide +kernel) (by decide +kernel) ?_
            exact W.vret hx hb hr (fun t9_ ht hW => ⟨⟨(p2127, f75127), rfl, by (try dsimp only); first | assumption | omega, by rw [ht]; exact hP, hD⟩, hS.F ht⟩) hS.2.2 dX12_sayWay_130
    · have t_9 : ¬ ((k5 : Nat) : Int) ≥ ((vn : Nat) : Int) := toI_nge c_9 (nI_toInt (by omega)) (nI_toInt (by omega))
      refine lv_aload_n hx hb dX12_sayWay_12 rfl (lv_at hl 0 rfl) ?_
      refine va_get (D := (dC, dI)) (ci := 12) (v := .ref (a 60)) (C := RX12) (T := TX12) (N := 163) (fs := fM (vS a (fT vi 125 (nI x4_i125)) vj)) hx hb hts iwsRX12_sayWay_in12 hown hK hP 0 rfl rfl 100 (by decide) (hts (.fieldLink RX12 203 "OptimaWorksModel" "wayNumber" "[I") (by decide +kernel)) (fun _ h9 => h9) rfl dX12_sayWay_13 ?_
      refine lv_bipush (v := 9) hx hb dX12_sayWay_16 (by decide) ?_
      refine lv_iload_n hx hb dX12_sayWay_18 rfl (lv_at hl 1 rfl) ?_
      refine lv_imul hx hb dX12_sayWay_19 ?_
      refine lv_topi (fun y5 hy5 => ?_)
      obtain rfl : (nI (9 * wn)) = y5 := (hy5.trans (pk_mul 9 wn)).symm
      refine lv_iconst (v := 1) hx hb dX12_sayWay_20 (by decide) ?_
      refine lv_iadd hx hb dX12_sayWay_21 ?_
      refine lv_topi (fun y6 hy6 => ?_)
      obtain rfl : (nI ((9 * wn) + 1)) = y6 := (hy6.trans (nI_add (9 * wn) 1)).symm
      refine lv_iload_n hx hb dX12_sayWay_22 rfl (lv_at hl 3 rfl) ?_
      refine lv_iadd hx hb dX12_sayWay_23 ?_
      refine lv_topi (fun y7 hy7 => ?_)
      obtain rfl : (nI (((9 * wn) + 1) + k5)) = y7 := (hy7.trans (nI_add ((9 * wn) + 1) k5)).symm
      refine va_iald (cA := k 60) (n := 351) (f := (vF 60)) hx hb hK hP 61 60 (WR_get 60 (by decide)) (TR_get 60 (by decide)) (vp_in_nI (show (((9 * wn) + 1) + k5) < 351 by omega) (by omega)) dX12_sayWay_24 ?_
      refine lv_topi (fun y8 hy8 => ?_)
      obtain rfl : ((vF 60) (((9 * wn) + 1) + k5)) = y8 := (hy8.trans (by rw [nI_clamp (by omega)])).symm
      refine lv_istore hx hb dX12_sayWay_25 hl (by decide) rfl (fun ls (hl : lv_has ls _ ([(4, .int ((vF 60) (((9 * wn) + 1) + k5))), (0, .ref h0), (1, .int (nI wn)), (2, .int so), (3, .int (nI k5))])) => ?_)
      refine lv_iload hx hb dX12_sayWay_27 (lv_at hl 0 rfl) ?_
      refine lv_if_ne (tgt := 35) hx hb dX12_sayWay_29 (by decide) (fun c_29 => ?_) (fun c_29 => ?_)
      · have t_29 : (((vF 60) (((9 * wn) + 1) + k5))).toInt ≠ 0 := toI_ne c_29 rfl (by decide)
        have ba := hM.2.2.2.1 wn k5 hwn (by omega)
        refine lv_aload_n hx hb dX12_sayWay_35 rfl (lv_at hl 1 rfl) ?_
        refine lv_iload hx hb dX12_sayWay_36 (lv_at hl 0 rfl) ?_
        refine lv_iconst (v := 1) hx hb dX12_sayWay_38 (by decide) ?_
        refine lv_iload_n hx hb dX12_sayWay_39 rfl (lv_at hl 4 rfl) ?_
        refine lv_iload_n hx hb dX12_sayWay_40 rfl (lv_at hl 3 rfl) ?_
        have hFc := allFree hD hS hA
        refine va_callv (va_runV (As := [.int ((vF 60) (((9 * wn) + 1) + k5)), .int 1, .int (nI k5), .int so]) (rest := []) ⟨hx, hb, hml, hown, hts⟩ (r_X12_sayTerm l dC dI a k h0 (fT vi 125 (nI x4_i125)) vj (fT vF 75 x4_F75) vG ((vF 60) (((9 * wn) + 1) + k5)) 1 (nI k5) so x4_i125 rfl (by first | with_reducible assumption | decide | omega | rfl | assumption) (by omega) (by decide) (by (have e9 := nI_toInt (n := k5) (by omega)); rw [e9]; omega) H.size) (cwV 4 hts gwsRX12_sayWay_2 rfl rfl rfl hd_yX12_sayTerm_RX12 (by decide +kernel)) (fz_pre (va_recv hK hP (ci := 12) (q0 := 0) rfl rfl) hP hK hD) rfl rfl hl.1 rfl (lv_room (Nat.le_of_ble_eq_true rfl)) dX12_sayWay_41 (by decide +kernel)) hS (fun q _ h => hFc q h) hFc (fun u t9_ H locs ht hvm hw9 hB9 hz1 hk1 hS => ?_)
        revert u
        refine fz_p2 ?_
        intro p241 f7541 hw9 hB9
        try dsimp only at hw9 hB9
        have hP : va_P (dC, dI) vwCl (WR a k h0 (fT (fT vi 125 (nI x4_i125)) 125 (nI p241)) vj (fT (fT vF 75 x4_F75) 75 f7541) vG) H := fz_P ht hB9.1
        have hD : va_D A (WR a k h0 (fT (fT vi 125 (nI x4_i125)) 125 (nI p241)) vj (fT (fT vF 75 x4_F75) 75 f7541) vG) := hB9.2.weaken (fun _ q _ h => hFc q.1 h)
        have e9 : fT vi 125 (nI p241) = fT (fT vi 125 (nI x4_i125)) 125 (nI p241) := (fT_sm _ _ _ _).symm
        rw [← e9] at hP hD
        clear e9
        have e9 : fT vF 75 f7541 = fT (fT vF 75 x4_F75) 75 f7541 := (fT_sm _ _ _ _).symm
        rw [← e9] at hP hD
        clear e9
        have hP : va_P (dC, dI) vwCl (WR a k h0 (fT vi 125 (nI p241)) vj (fT vF 75 f7541) vG) H := hP
        have hD : va_D A (WR a k h0 (fT vi 125 (nI p241)) vj (fT vF 75 f7541) vG) := hD
        have f41_0 := hw9
        try dsimp only at f41_0
        refine lv_iconst (v := 1) hx hb dX12_sayWay_44 (by decide) ?_
        refine lv_istore_n hx hb dX12_sayWay_45 rfl hl (by decide) rfl (fun ls (hl : lv_has ls _ ([(2, .int 1), (4, .int ((vF 60) (((9 * wn) + 1) + k5))), (0, .ref h0), (1, .int (nI wn)), (3, .int (nI k5))])) => ?_)
        refine lv_iinc (v := (nI (k5 + 1))) hx hb dX12_sayWay_46 hl (k := 4) rfl (nI_add k5 1) (by decide) rfl (fun ls (hl : lv_has ls _ ([(3, .int (nI (k5 + 1))), (2, .int 1), (4, .int ((vF 60) (((9 * wn) + 1) + k5))), (0, .ref h0), (1, .int (nI wn))])) => ?_)
        refine lv_goto (tgt := 4) hx hb dX12_sayWay_49 (by decide) ?_
        have hl : lv_has _ _ ([(0, .ref h0), (1, .int (nI wn)), (2, .int 1), (3, .int (nI (k5 + 1)))]) := lv_sub hl [3, 4, 1, 0] rfl
        exact ih4 (k5 + 1) 1 p241 f7541 _ _ _ (by omega) (by first | with_reducible assumption | omega | assumption) (by omega) hP hD hS hl
      · have t_29 : (((vF 60) (((9 * wn) + 1) + k5))).toInt = 0 := toI_nne c_29 rfl (by decide)
        refine lv_goto (tgt := 46) hx hb dX12_sayWay_32 (by decide) ?_
        refine lv_iinc (v := (nI (k5 + 1))) hx hb dX12_sayWay_46 hl (k := 4) rfl (nI_add k5 1) (by decide) rfl (fun ls (hl : lv_has ls _ ([(3, .int (nI (k5 + 1))), (4, .int ((vF 60) (((9 * wn) + 1) + k5))), (0, .ref h0), (1, .int (nI wn)), (2, .int so)])) => ?_)
        refine lv_goto (tgt := 4) hx hb dX12_sayWay_49 (by decide) ?_
        have hl : lv_has _ _ ([(0, .ref h0), (1, .int (nI wn)), (2, .int so), (3, .int (nI (k5 + 1)))]) := lv_sub hl [2, 3, 4, 0] rfl
        exact ih4 (k5 + 1) so x4_i125 x4_F75 _ _ _ (by omega) (by first | with_reducible assumption | omega | assumption) (by omega) hP hD hS hl
end
section
theorem Bg.lt {f : Nat → Int32} {m : Nat → Int} (h : Bg f m) {q : Nat} (hq : q < 1100) : (m q).natAbs < 2 ^ 616 := by
  obtain ⟨n, h1, h2, h3, h4, h5, h6⟩ := h q hq
  rw [h5]
  have h7 := lv28_lt h3
  exact Nat.lt_of_lt_of_le h7 (Nat.pow_le_pow_right (by decide) (show 28 * n ≤ 616 by omega))
theorem dig_le {n : Nat} {x : Nat} (hx : 1 ≤ x) (h : x * 8 ^ n < 2 ^ 616) : n < 206 := by
  rcases Nat.lt_or_ge n 206 with h1 | h1
  · exact h1
  · exfalso
    have h2 : 8 ^ 206 ≤ 8 ^ n := Nat.pow_le_pow_right (by decide) h1
    have h3 : 1 * 8 ^ n ≤ x * 8 ^ n := Nat.mul_le_mul_right _ hx
    have h4 : (2 : Nat) ^ 616 ≤ 8 ^ 206 := by decide +kernel
    omega
theorem dig_step {x : Int} {n : Nat} (h : x.natAbs * 8 ^ n < 2 ^ 616) : (x.tdiv 10).natAbs * 8 ^ (n + 1) < 2 ^ 616 := by
  refine Nat.lt_of_le_of_lt ?_ h
  have e : (x.tdiv 10).natAbs = x.natAbs / 10 := Int.natAbs_tdiv x 10
  have e2 : x.natAbs / 10 * (8 ^ n * 8) = x.natAbs / 10 * 8 * 8 ^ n := by rw [Nat.mul_comm (8 ^ n) 8, Nat.mul_assoc]
  rw [e, Nat.pow_succ, e2]
  exact Nat.mul_le_mul_right _ (by omega)
/-- what end does -/
def EndO (tp : Nat) (n : Int32) : Prop := 0 ≤ n.toInt ∧ n.toInt ≤ 20 ∧ (tp : Int) + n.toInt ≤ 4000
end

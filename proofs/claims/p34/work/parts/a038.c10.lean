theorem dX12_common_0 : decode cX12_common 0 = .ok (.aload_n 0, 1) := dk_42 (by decide +kernel)
theorem dX12_common_1 : decode cX12_common 1 = .ok (.iconst 5, 1) := dk_8 (by decide +kernel)
theorem dX12_common_2 : decode cX12_common 2 = .ok (.iload_n 2, 1) := dk_28 (by decide +kernel)
theorem dX12_common_3 : decode cX12_common 3 = .ok (.invokevirtual 365, 3) := dk_182 (by decide +kernel)
theorem dX12_common_6 : decode cX12_common 6 = .ok (.aload_n 0, 1) := dk_42 (by decide +kernel)
theorem dX12_common_7 : decode cX12_common 7 = .ok (.bipush 6, 2) := dk_16 (by decide +kernel)
theorem dX12_common_9 : decode cX12_common 9 = .ok (.iload_n 3, 1) := dk_29 (by decide +kernel)
theorem dX12_common_10 : decode cX12_common 10 = .ok (.invokevirtual 365, 3) := dk_182 (by decide +kernel)
theorem dX12_common_13 : decode cX12_common 13 = .ok (.aload_n 0, 1) := dk_42 (by decide +kernel)
theorem dX12_common_14 : decode cX12_common 14 = .ok (.iconst 5, 1) := dk_8 (by decide +kernel)
theorem dX12_common_15 : decode cX12_common 15 = .ok (.invokevirtual 353, 3) := dk_182 (by decide +kernel)
theorem dX12_common_18 : decode cX12_common 18 = .ok (.ifCond .ge 8, 3) := dk_156 (by decide +kernel)
theorem dX12_common_21 : decode cX12_common 21 = .ok (.aload_n 0, 1) := dk_42 (by decide +kernel)
theorem dX12_common_22 : decode cX12_common 22 = .ok (.iconst 5, 1) := dk_8 (by decide +kernel)
theorem dX12_common_23 : decode cX12_common 23 = .ok (.invokevirtual 379, 3) := dk_182 (by decide +kernel)
theorem dX12_common_26 : decode cX12_common 26 = .ok (.aload_n 0, 1) := dk_42 (by decide +kernel)
theorem dX12_common_27 : decode cX12_common 27 = .ok (.bipush 6, 2) := dk_16 (by decide +kernel)
theorem dX12_common_29 : decode cX12_common 29 = .ok (.invokevirtual 353, 3) := dk_182 (by decide +kernel)
theorem dX12_common_32 : decode cX12_common 32 = .ok (.ifCond .ge 9, 3) := dk_156 (by decide +kernel)
theorem dX12_common_35 : decode cX12_common 35 = .ok (.aload_n 0, 1) := dk_42 (by decide +kernel)
theorem dX12_common_36 : decode cX12_common 36 = .ok (.bipush 6, 2) := dk_16 (by decide +kernel)
theorem dX12_common_38 : decode cX12_common 38 = .ok (.invokevirtual 379, 3) := dk_182 (by decide +kernel)
theorem dX12_common_41 : decode cX12_common 41 = .ok (.aload_n 0, 1) := dk_42 (by decide +kernel)
theorem dX12_common_42 : decode cX12_common 42 = .ok (.bipush 6, 2) := dk_16 (by decide +kernel)
theorem dX12_common_44 : decode cX12_common 44 = .ok (.invokevirtual 353, 3) := dk_182 (by decide +kernel)
theorem dX12_common_47 : decode cX12_common 47 = .ok (.ifCond .le 32, 3) := dk_158 (by decide +kernel)
theorem dX12_common_50 : decode cX12_common 50 = .ok (.aload_n 0, 1) := dk_42 (by decide +kernel)
theorem dX12_common_51 : decode cX12_common 51 = .ok (.bipush 7, 2) := dk_16 (by decide +kernel)
theorem dX12_common_53 : decode cX12_common 53 = .ok (.bipush 8, 2) := dk_16 (by decide +kernel)
theorem dX12_common_55 : decode cX12_common 55 = .ok (.iconst 5, 1) := dk_8 (by decide +kernel)
theorem dX12_common_56 : decode cX12_common 56 = .ok (.bipush 6, 2) := dk_16 (by decide +kernel)
theorem dX12_common_58 : decode cX12_common 58 = .ok (.invokevirtual 383, 3) := dk_182 (by decide +kernel)
theorem dX12_common_61 : decode cX12_common 61 = .ok (.aload_n 0, 1) := dk_42 (by decide +kernel)
theorem dX12_common_62 : decode cX12_common 62 = .ok (.iconst 5, 1) := dk_8 (by decide +kernel)
theorem dX12_common_63 : decode cX12_common 63 = .ok (.bipush 6, 2) := dk_16 (by decide +kernel)
theorem dX12_common_65 : decode cX12_common 65 = .ok (.invokevirtual 365, 3) := dk_182 (by decide +kernel)
theorem dX12_common_68 : decode cX12_common 68 = .ok (.aload_n 0, 1) := dk_42 (by decide +kernel)
theorem dX12_common_69 : decode cX12_common 69 = .ok (.bipush 6, 2) := dk_16 (by decide +kernel)
theorem dX12_common_71 : decode cX12_common 71 = .ok (.bipush 8, 2) := dk_16 (by decide +kernel)
theorem dX12_common_73 : decode cX12_common 73 = .ok (.invokevirtual 365, 3) := dk_182 (by decide +kernel)
theorem dX12_common_76 : decode cX12_common 76 = .ok (.goto (-35), 3) := dk_167 (by decide +kernel)
theorem dX12_common_79 : decode cX12_common 79 = .ok (.aload_n 0, 1) := dk_42 (by decide +kernel)
theorem dX12_common_80 : decode cX12_common 80 = .ok (.iload_n 1, 1) := dk_27 (by decide +kernel)
theorem dX12_common_81 : decode cX12_common 81 = .ok (.iconst 5, 1) := dk_8 (by decide +kernel)
theorem dX12_common_82 : decode cX12_common 82 = .ok (.invokevirtual 365, 3) := dk_182 (by decide +kernel)
theorem dX12_common_85 : decode cX12_common 85 = .ok (.return_, 1) := dk_177 (by decide +kernel)
def wsRX12_common : List Cond := .code yX12_common cX12_common 4 none :: ([] ++ wsX120 ++ (wsV RX12 365 RX12 yX12_copy wsRX12_copy) ++ (wsV RX12 353 RX12 yX12_sign wsRX12_sign) ++ (wsV RX12 379 RX12 yX12_turn wsRX12_turn) ++ (wsV RX12 383 RX12 yX12_divide wsRX12_divide))
theorem iwsRX12_common_in12 : ∀ w ∈ wsX120, w ∈ wsRX12_common := fun _ h => List.mem_cons_of_mem _ (List.mem_append_left _ (List.mem_append_left _ (List.mem_append_left _ (List.mem_append_left _ (List.mem_append_right _ h)))))
theorem gwsRX12_common_0 : GoodIn wsRX12_common (wsV RX12 365 RX12 yX12_copy wsRX12_copy) := goodIn_sub (fun _ h => List.mem_cons_of_mem _ (List.mem_append_left _ (List.mem_append_left _ (List.mem_append_left _ (List.mem_append_right _ h))))) (gdV (by decide +kernel) gdwsRX12_copy)
theorem gwsRX12_common_1 : GoodIn wsRX12_common (wsV RX12 353 RX12 yX12_sign wsRX12_sign) := goodIn_sub (fun _ h => List.mem_cons_of_mem _ (List.mem_append_left _ (List.mem_append_left _ (List.mem_append_right _ h)))) (gdV (by decide +kernel) gdwsRX12_sign)
theorem gwsRX12_common_2 : GoodIn wsRX12_common (wsV RX12 379 RX12 yX12_turn wsRX12_turn) := goodIn_sub (fun _ h => List.mem_cons_of_mem _ (List.mem_append_left _ (List.mem_append_right _ h))) (gdV (by decide +kernel) gdwsRX12_turn)
theorem gwsRX12_common_3 : GoodIn wsRX12_common (wsV RX12 383 RX12 yX12_divide wsRX12_divide) := goodIn_sub (fun _ h => List.mem_cons_of_mem _ (List.mem_append_right _ h)) (gdV (by decide +kernel) gdwsRX12_divide)
theorem gdwsRX12_common : wsRX12_common.all goodWord = true := gdC rfl (gdA (gdA (gdA (gdA (gdA (by decide +kernel : ([] : List Cond).all goodWord = true) gdwsX120) (gdV (by decide +kernel) gdwsRX12_copy)) (gdV (by decide +kernel) gdwsRX12_sign)) (gdV (by decide +kernel) gdwsRX12_turn)) (gdV (by decide +kernel) gdwsRX12_divide))
set_option maxHeartbeats 4000000 in
set_option maxRecDepth 100000 in
/-- common(s, a, b) -/
theorem r_X12_common (l : Launch) (dC : Nat → ClassId) (dI : Nat → Nat → Nat) (a : Nat → Nat) (k : Nat → ClassId) (h0 : Nat) (vi : Nat → Int32) (vj : Nat → Int64) (vF : Nat → Nat → Int32) (vG : Nat → Nat → Int64) (sn : Nat) (an : Nat) (bn : Nat) (mg : Nat → Int) (hBg : Bg (vF 0) mg) (xa : Int) (xb : Int) (v_xa : mg an = xa) (v_xb : mg bn = xb) (hna : an < 1100) (hnb : bn < 1100) (hs : sn < 1100) (h58s : (sn < 5 ∨ 8 < sn)) (h58a : (an < 5 ∨ 8 < an)) (h58b : (bn < 5 ∨ 8 < bn)) (sz : Nat) : Met l yX12_common wsRX12_common ({ frames := 2, cells := 0, slots := 0, locals := 62 }) (va_Pc [.ref h0, .int (nI sn), .int (nI an), .int (nI bn)] (fun U => U.heap.size = sz ∧ va_P (dC, dI) vwCl (WR a k h0 vi vj vF vG) U.heap ∧ va_K (dC, dI) vwCl (tX12 k) U ∧ va_D (fun _ => True) (WR a k h0 vi vj vF vG))) (va_Qv (fun (u : (Nat → Int32) × (Nat → Int32) × (Nat → Int32) × (Nat → Int64) × (Nat → Int)) => (Bg (u.1) (u.2.2.2.2)) ∧ ((u.2.2.2.2) sn = ((Int.gcd xa xb : Nat) : Int)) ∧ (∀ q, q ≠ sn → (q < 5 ∨ 8 < q) → (u.2.2.2.2) q = mg q)) (fun (u : (Nat → Int32) × (Nat → Int32) × (Nat → Int32) × (Nat → Int64) × (Nat → Int)) t => va_P (dC, dI) vwCl (WR a k h0 vi vj (fT (fT (fT vF 0 (u.1)) 2 (u.2.1)) 3 (u.2.2.1)) (fT vG 1 (u.2.2.2.1))) t.heap ∧ va_D (va_A (WR a k h0 vi vj vF vG) sz) (WR a k h0 vi vj (fT (fT (fT vF 0 (u.1)) 2 (u.2.1)) 3 (u.2.2.1)) (fT vG 1 (u.2.2.2.1)))) (va_A (WR a k h0 vi vj vF vG) sz)) 0 0 (va_A (WR a k h0 vi vj vF vG) sz) := by
  refine Met.ofW (cc := cX12_common) (maxL := 4) (ret := none) (by decide) rfl ?_
  intro p e s m args below meth c s₁ B hml hv
  obtain ⟨rfl, hsz, hP, hK, hD0⟩ := hv
  have hx := B.exec
  have hb := B.bytes
  have hr := B.returns
  have hts := atoms_spec (ws := wsRX12_common) B.pre
  have hown : s.vm.findClass RX12 = some m.cls := findClass_of_methodNamed B.named
  have hlocks := B.notSynchronized
  subst hsz
  have hD := hD0.self (sz := s.heap.size)
  generalize hAe : va_A (WR a k h0 vi vj vF vG) s.heap.size = A at hD ⊢
  have hA : ∀ q : Nat, s.heap.size ≤ q → A q := fun q h => by rw [← hAe]; exact Or.inr h
  have hS : va_S A s.heap s.heap [] := va_S.rf
  have hl := lv_entry ([.ref h0, .int (nI sn), .int (nI an), .int (nI bn)]) (n := 4) (Nat.le_of_ble_eq_true rfl)
  rw [lg_entry_eq]
  generalize (lg_sl ([.ref h0, .int (nI sn), .int (nI an), .int (nI bn)]) ++ List.replicate (4 - (lg_sl ([.ref h0, .int (nI sn), .int (nI an), .int (nI bn)])).length) Slot.unset).toArray = ls at hl ⊢
  have hl : lv_has ls 4 [(0, .ref h0), (1, .int (nI sn)), (2, .int (nI an)), (3, .int (nI bn))] := hl
  refine lv_aload_n hx hb dX12_common_0 rfl (lv_at hl 0 rfl) ?_
  refine lv_iconst (v := 5) hx hb dX12_common_1 (by decide) ?_
  refine lv_iload_n hx hb dX12_common_2 rfl (lv_at hl 2 rfl) ?_
  have hFc := allFree hD hS hA
  refine va_callv (va_runV (As := [.int 5, .int (nI an)]) (rest := []) ⟨hx, hb, hml, hown, hts⟩ (b_X12_copy l dC dI a k h0 vi vj vF vG 5 an mg hBg xa (by rw [v_xa]) (by first | assumption | decide | omega | rfl) (by first | assumption | decide | omega | rfl) (by first | assumption | decide | omega | rfl) s.heap.size) (cwV 2 hts gwsRX12_common_0 rfl rfl rfl (by decide +kernel) ⟨by decide +kernel, by decide +kernel⟩) ⟨fun a U g mk q => by obtain ⟨q0, q1, qP, qK, qD⟩ := q; exact ⟨q0, q1, qP, va_K.moved (u := U) (U := U.calling g mk a) (Vm.Alike.refl U.vm) qK, qD⟩, va_recv hK hP (ci := 12) (q0 := 0) rfl rfl, fun U hU9 hW => ⟨rfl, by rw [hU9], by rw [hU9]; exact hP, va_K.moved hW.alike hK, hD.weaken (fun _ _ _ _ => trivial)⟩⟩ rfl rfl hl.1 rfl (lv_room (Nat.le_of_ble_eq_true rfl)) dX12_common_3 ⟨by decide +kernel, by decide +kernel⟩) hS (fun q _ h => hFc q h) hFc (fun u t9_ H1 locs ht hvm hw9 hB9 hz1 hk1 hS => ?_)
  obtain ⟨g3, hwit3⟩ : ∃ w9, w9 = u := ⟨u, rfl⟩
  subst hwit3
  obtain ⟨hP1, hD1⟩ := hB9
  rw [ht] at hP1
  have hP := hP1
  have hD := hD1.weaken (fun _ q _ h => hFc q.1 h)
  generalize H1 = H at hP hS ⊢
  have hP : va_P (dC, dI) vwCl (WR a k h0 vi vj (fT vF 0 g3) vG) H := hP
  have hD : va_D A (WR a k h0 vi vj (fT vF 0 g3) vG) := hD
  have f3_0 := hw9
  try dsimp only at f3_0
  refine lv_aload_n hx hb dX12_common_6 rfl (lv_at hl 0 rfl) ?_
  refine lv_bipush (v := 6) hx hb dX12_common_7 (by decide) ?_
  refine lv_iload_n hx hb dX12_common_9 rfl (lv_at hl 3 rfl) ?_
  have hFc := allFree hD hS hA
  refine va_callv (va_runV (As := [.int 6, .int (nI bn)]) (rest := []) ⟨hx, hb, hml, hown, hts⟩ (b_X12_copy l dC dI a k h0 vi vj (fT vF 0 g3) vG 6 bn (fT mg 5 xa) f3_0 xb (by rw [fT_ne _ _ (by omega), v_xb]) (by first | assumption | decide | omega | rfl) (by first | assumption | decide | omega | rfl) (by first | assumption | decide | omega | rfl) H.size) (cwV 2 hts gwsRX12_common_0 rfl rfl rfl (by decide +kernel) ⟨by decide +kernel, by decide +kernel⟩) ⟨fun a U g mk q => by obtain ⟨q0, q1, qP, qK, qD⟩ := q; exact ⟨q0, q1, qP, va_K.moved (u := U) (U := U.calling g mk a) (Vm.Alike.refl U.vm) qK, qD⟩, va_recv hK hP (ci := 12) (q0 := 0) rfl rfl, fun U hU9 hW => ⟨rfl, by rw [hU9], by rw [hU9]; exact hP, va_K.moved hW.alike hK, hD.weaken (fun _ _ _ _ => trivial)⟩⟩ rfl rfl hl.1 rfl (lv_room (Nat.le_of_ble_eq_true rfl)) dX12_common_10 ⟨by decide +kernel, by decide +kernel⟩) hS (fun q _ h => hFc q h) hFc (fun u t9_ H1 locs ht hvm hw9 hB9 hz1 hk1 hS => ?_)
  obtain ⟨g10, hwit10⟩ : ∃ w9, w9 = u := ⟨u, rfl⟩
  subst hwit10
  obtain ⟨hP1, hD1⟩ := hB9
  rw [ht] at hP1
  have hP := hP1
  have hD := hD1.weaken (fun _ q _ h => hFc q.1 h)
  generalize H1 = H at hP hS ⊢
  have hP : va_P (dC, dI) vwCl (WR a k h0 vi vj (fT (fT vF 0 g3) 0 g10) vG) H := hP
  have hD : va_D A (WR a k h0 vi vj (fT (fT vF 0 g3) 0 g10) vG) := hD
  have e9 : fT vF 0 g10 = fT (fT vF 0 g3) 0 g10 := (fT_sm _ _ _ _).symm
  rw [← e9] at hP hD
  clear e9
  have hP : va_P (dC, dI) vwCl (WR a k h0 vi vj (fT vF 0 g10) vG) H := hP
  have hD : va_D A (WR a k h0 vi vj (fT vF 0 g10) vG) := hD
  have f10_0 := hw9
  try dsimp only at f10_0
  refine lv_aload_n hx hb dX12_common_13 rfl (lv_at hl 0 rfl) ?_
  refine lv_iconst (v := 5) hx hb dX12_common_14 (by decide) ?_
  have hFc := allFree hD hS hA
  refine va_calli (va_runV (As := [.int 5]) (rest := []) ⟨hx, hb, hml, hown, hts⟩ (b_X12_sign l dC dI a k h0 vi vj (fT vF 0 g10) vG 5 (fT (fT mg 5 xa) 6 xb) f10_0 xa (by rw [fT_ne _ _ (by omega), fT_eq]) (by first | assumption | decide | omega | rfl) H.size) (cwV 1 hts gwsRX12_common_1 rfl rfl rfl (by decide +kernel) ⟨by decide +kernel, by decide +kernel⟩) ⟨fun a U g mk q => by obtain ⟨q0, q1, qP, qK, qD⟩ := q; exact ⟨q0, q1, qP, va_K.moved (u := U) (U := U.calling g mk a) (Vm.Alike.refl U.vm) qK, qD⟩, va_recv hK hP (ci := 12) (q0 := 0) rfl rfl, fun U hU9 hW => ⟨rfl, by rw [hU9], by rw [hU9]; exact hP, va_K.moved hW.alike hK, hD.weaken (fun _ _ _ _ => trivial)⟩⟩ rfl rfl hl.1 rfl (lv_room (Nat.le_of_ble_eq_true rfl)) dX12_common_15 ⟨by decide +kernel, by decide +kernel⟩) hS (fun q _ h => hFc q h) hFc (fun r15 u t9_ H1 locs ht hvm hw9 hB9 hz1 hk1 hS => ?_)
  obtain ⟨hP1, hD1⟩ := hB9
  rw [ht] at hP1
  have hP := hP1
  have hD := hD1.weaken (fun _ q _ h => hFc q.1 h)
  generalize H1 = H at hP hS ⊢
  have hP : va_P (dC, dI) vwCl (WR a k h0 vi vj (fT vF 0 g10) vG) H := hP
  have hD : va_D A (WR a k h0 vi vj (fT vF 0 g10) vG) := hD
  have f15_0 := hw9
  try dsimp only at f15_0
  refine W.cut (pc := 26) (fun H locs ls stk => ∃ (ga : Nat → Int32) (ma : Nat → Int) (y5 : Int) (y6 : Int), (Bg ga ma) ∧ (ma 5 = y5) ∧ (ma 6 = y6) ∧ (y5 = xa.natAbs) ∧ (y6 = xb) ∧ (∀ q, (q < 5 ∨ 8 < q) → ma q = mg q) ∧  stk = [] ∧ va_P (dC, dI) vwCl (WR a k h0 vi vj (fT vF 0 ga) vG) H ∧ va_D A (WR a k h0 vi vj (fT vF 0 ga) vG) ∧ va_S A s.heap H locs ∧ lv_has ls 4 [(0, .ref h0), (1, .int (nI sn))]) (fun join1 => ?_) ?_
  · refine lv_if_ge (tgt := 26) hx hb dX12_common_18 (by decide) (fun c_18 => ?_) (fun c_18 => ?_)
    · have t_18 : (r15).toInt ≥ 0 := toI_ge c_18 rfl (by decide)
      have hl : lv_has _ _ ([(0, .ref h0), (1, .int (nI sn))]) := lv_sub hl [0, 1] rfl
      exact join1 _ _ _ _ ⟨g10, (fT (fT mg 5 xa) 6 xb), xa, xb, f10_0, (by rw [fT_ne _ _ (by omega), fT_eq]), (by rw [fT_eq]), by omega, by omega, fun q hq => by (rw [fT_ne _ _ (by omega), fT_ne _ _ (by omega)]), rfl, hP, hD, hS, hl⟩
    · have t_18 : ¬ (r15).toInt ≥ 0 := toI_nge c_18 rfl (by decide)
      refine lv_aload_n hx hb dX12_common_21 rfl (lv_at hl 0 rfl) ?_
      refine lv_iconst (v := 5) hx hb dX12_common_22 (by decide) ?_
      have hFc := allFree hD hS hA
      refine va_callv (va_runV (As := [.int 5]) (rest := []) ⟨hx, hb, hml, hown, hts⟩ (b_X12_turn l dC dI a k h0 vi vj (fT vF 0 g10) vG 5 (fT (fT mg 5 xa) 6 xb) f10_0 xa (by rw [fT_ne _ _ (by omega), fT_eq]) (by first | assumption | decide | omega | rfl) H.size) (cwV 1 hts gwsRX12_common_2 rfl rfl rfl (by decide +kernel) ⟨by decide +kernel, by decide +kernel⟩) ⟨fun a U g mk q => by obtain ⟨q0, q1, qP, qK, qD⟩ := q; exact ⟨q0, q1, qP, va_K.moved (u := U) (U := U.calling g mk a) (Vm.Alike.refl U.vm) qK, qD⟩, va_recv hK hP (ci := 12) (q0 := 0) rfl rfl, fun U hU9 hW => ⟨rfl, by rw [hU9], by rw [hU9]; exact hP, va_K.moved hW.alike hK, hD.weaken (fun _ _ _ _ => trivial)⟩⟩ rfl rfl hl.1 rfl (lv_room (Nat.le_of_ble_eq_true rfl)) dX12_common_23 ⟨by decide +kernel, by decide +kernel⟩) hS (fun q _ h => hFc q h) hFc (fun u t9_ H1 locs ht hvm hw9 hB9 hz1 hk1 hS => ?_)
      obtain ⟨hP1, hD1⟩ := hB9
      rw [ht] at hP1
      have hP := hP1
      have hD := hD1.weaken (fun _ q _ h => hFc q.1 h)
      generalize H1 = H at hP hS ⊢
      have hP : va_P (dC, dI) vwCl (WR a k h0 vi vj (fT (fT vF 0 g10) 0 (upd g10 (nI (24 * 5)).toNatClampNeg (-(g10 (24 * 5))))) vG) H := hP
      have hD : va_D A (WR a k h0 vi vj (fT (fT vF 0 g10) 0 (upd g10 (nI (24 * 5)).toNatClampNeg (-(g10 (24 * 5))))) vG) := hD
      have e9 : fT vF 0 (upd g10 (nI (24 * 5)).toNatClampNeg (-(g10 (24 * 5)))) = fT (fT vF 0 g10) 0 (upd g10 (nI (24 * 5)).toNatClampNeg (-(g10 (24 * 5)))) := (fT_sm _ _ _ _).symm
      rw [← e9] at hP hD
      clear e9
      have hP : va_P (dC, dI) vwCl (WR a k h0 vi vj (fT vF 0 (upd g10 (nI (24 * 5)).toNatClampNeg (-(g10 (24 * 5))))) vG) H := hP
      have hD : va_D A (WR a k h0 vi vj (fT vF 0 (upd g10 (nI (24 * 5)).toNatClampNeg (-(g10 (24 * 5))))) vG) := hD
      have f23_0 := hw9
      try dsimp only at f23_0
      have f23_0 : Bg (upd g10 (nI (24 * 5)).toNatClampNeg (-(g10 (24 * 5)))) (fT (fT (fT mg 5 xa) 6 xb) 5 (-xa)) := f23_0
      have hl : lv_has _ _ ([(0, .ref h0), (1, .int (nI sn))]) := lv_sub hl [0, 1] rfl
      exact join1 _ _ _ _ ⟨(upd g10 (nI (24 * 5)).toNatClampNeg (-(g10 (24 * 5)))), (fT (fT (fT mg 5 xa) 6 xb) 5 (-xa)), (-xa), xb, f23_0, (by rw [fT_eq]), (by rw [fT_ne _ _ (by omega), fT_eq]), by omega, by omega, fun q hq => by (rw [fT_ne _ _ (by omega), fT_ne _ _ (by omega), fT_ne _ _ (by omega)]), rfl, hP, hD, hS, hl⟩
  · rintro H locs ls stk ⟨ga, ma, y5, y6, hBa, v_y5, v_y6, hy5, hy6, hoa, rfl, hP, hD, hS, hl⟩
    refine lv_aload_n hx hb dX12_common_26 rfl (lv_at hl 0 rfl) ?_
    refine lv_bipush (v := 6) hx hb dX12_common_27 (by decide) ?_
    have hFc := allFree hD hS hA
    refine va_calli (va_runV (As := [.int 6]) (rest := []) ⟨hx, hb, hml, hown, hts⟩ (b_X12_sign l dC dI a k h0 vi vj (fT vF 0 ga) vG 6 ma hBa y6 (by rw [v_y6]) (by first | assumption | decide | omega | rfl) H.size) (cwV 1 hts gwsRX12_common_1 rfl rfl rfl (by decide +kernel) ⟨by decide +kernel, by decide +kernel⟩) ⟨fun a U g mk q => by obtain ⟨q0, q1, qP, qK, qD⟩ := q; exact ⟨q0, q1, qP, va_K.moved (u := U) (U := U.calling g mk a) (Vm.Alike.refl U.vm) qK, qD⟩, va_recv hK hP (ci := 12) (q0 := 0) rfl rfl, fun U hU9 hW => ⟨rfl, by rw [hU9], by rw [hU9]; exact hP, va_K.moved hW.alike hK, hD.weaken (fun _ _ _ _ => trivial)⟩⟩ rfl rfl hl.1 rfl (lv_room (Nat.le_of_ble_eq_true rfl)) dX12_common_29 ⟨by decide +kernel, by decide +kernel⟩) hS (fun q _ h => hFc q h) hFc (fun r29 u t9_ H1 locs ht hvm hw9 hB9 hz1 hk1 hS => ?_)
    obtain ⟨hP1, hD1⟩ := hB9
    rw [ht] at hP1
    have hP := hP1
    have hD := hD1.weaken (fun _ q _ h => hFc q.1 h)
    generalize H1 = H at hP hS ⊢
    have hP : va_P (dC, dI) vwCl (WR a k h0 vi vj (fT vF 0 ga) vG) H := hP
    have hD : va_D A (WR a k h0 vi vj (fT vF 0 ga) vG) := hD
    have f29_0 := hw9
    try dsimp only at f29_0
    refine W.cut (pc := 41) (fun H locs ls stk => ∃ (gb : Nat → Int32) (mb : Nat → Int) (z5 : Int) (z6 : Int), (Bg gb mb) ∧ (mb 5 = z5) ∧ (mb 6 = z6) ∧ (z5 = xa.natAbs) ∧ (z6 = xb.natAbs) ∧ (∀ q, (q < 5 ∨ 8 < q) → mb q = mg q) ∧  stk = [] ∧ va_P (dC, dI) vwCl (WR a k h0 vi vj (fT vF 0 gb) vG) H ∧ va_D A (WR a k h0 vi vj (fT vF 0 gb) vG) ∧ va_S A s.heap H locs ∧ lv_has ls 4 [(0, .ref h0), (1, .int (nI sn))]) (fun join2 => ?_) ?_
    · refine lv_if_ge (tgt := 41) hx hb dX12_common_32 (by decide) (fun c_32 => ?_) (fun c_32 => ?_)
      · have t_32 : (r29).toInt ≥ 0 := toI_ge c_32 rfl (by decide)
        have hl : lv_has _ _ ([(0, .ref h0), (1, .int (nI sn))]) := lv_sub hl [0, 1] rfl
        exact join2 _ _ _ _ ⟨ga, ma, y5, y6, hBa, (by rw [v_y5]), (by rw [v_y6]), by omega, by omega, hoa, rfl, hP, hD, hS, hl⟩
      · have t_32 : ¬ (r29).toInt ≥ 0 := toI_nge c_32 rfl (by decide)
        refine lv_aload_n hx hb dX12_common_35 rfl (lv_at hl 0 rfl) ?_
        refine lv_bipush (v := 6) hx hb dX12_common_36 (by decide) ?_
        have hFc := allFree hD hS hA
        refine va_callv (va_runV (As := [.int 6]) (rest := []) ⟨hx, hb, hml, hown, hts⟩ (b_X12_turn l dC dI a k h0 vi vj (fT vF 0 ga) vG 6 ma hBa y6 (by rw [v_y6]) (by first | assumption | decide | omega | rfl) H.size) (cwV 1 hts gwsRX12_common_2 rfl rfl rfl (by decide +kernel) ⟨by decide +kernel, by decide +kernel⟩) ⟨fun a U g mk q => by obtain ⟨q0, q1, qP, qK, qD⟩ := q; exact ⟨q0, q1, qP, va_K.moved (u := U) (U := U.calling g mk a) (Vm.Alike.refl U.vm) qK, qD⟩, va_recv hK hP (ci := 12) (q0 := 0) rfl rfl, fun U hU9 hW => ⟨rfl, by rw [hU9], by rw [hU9]; exact hP, va_K.moved hW.alike hK, hD.weaken (fun _ _ _ _ => trivial)⟩⟩ rfl rfl hl.1 rfl (lv_room (Nat.le_of_ble_eq_true rfl)) dX12_common_38 ⟨by decide +kernel, by decide +kernel⟩) hS (fun q _ h => hFc q h) hFc (fun u t9_ H1 locs ht hvm hw9 hB9 hz1 hk1 hS => ?_)
        obtain ⟨hP1, hD1⟩ := hB9
        rw [ht] at hP1
        have hP := hP1
        have hD := hD1.weaken (fun _ q _ h => hFc q.1 h)
        generalize H1 = H at hP hS ⊢
        have hP : va_P (dC, dI) vwCl (WR a k h0 vi vj (fT (fT vF 0 ga) 0 (upd ga (nI (24 * 6)).toNatClampNeg (-(ga (24 * 6))))) vG) H := hP
        have hD : va_D A (WR a k h0 vi vj (fT (fT vF 0 ga) 0 (upd ga (nI (24 * 6)).toNatClampNeg (-(ga (24 * 6))))) vG) := hD
        have e9 : fT vF 0 (upd ga (nI (24 * 6)).toNatClampNeg (-(ga (24 * 6)))) = fT (fT vF 0 ga) 0 (upd ga (nI (24 * 6)).toNatClampNeg (-(ga (24 * 6)))) := (fT_sm _ _ _ _).symm
        rw [← e9] at hP hD
        clear e9
        have hP : va_P (dC, dI) vwCl (WR a k h0 vi vj (fT vF 0 (upd ga (nI (24 * 6)).toNatClampNeg (-(ga (24 * 6))))) vG) H := hP
        have hD : va_D A (WR a k h0 vi vj (fT vF 0 (upd ga (nI (24 * 6)).toNatClampNeg (-(ga (24 * 6))))) vG) := hD
        have f38_0 := hw9
        try dsimp only at f38_0
        have f38_0 : Bg (upd ga (nI (24 * 6)).toNatClampNeg (-(ga (24 * 6)))) (fT ma 6 (-y6)) := f38_0
        have hl : lv_has _ _ ([(0, .ref h0), (1, .int (nI sn))]) := lv_sub hl [0, 1] rfl
        exact join2 _ _ _ _ ⟨(upd ga (nI (24 * 6)).toNatClampNeg (-(ga (24 * 6)))), (fT ma 6 (-y6)), y5, (-y6), f38_0, (by rw [fT_ne _ _ (by omega), v_y5]), (by rw [fT_eq]), by omega, by omega, fun q hq => by (rw [fT_ne _ _ (by omega)]); exact hoa q hq, rfl, hP, hD, hS, hl⟩
    · rintro H locs ls stk ⟨gb, mb, z5, z6, hBb, v_z5, v_z6, hz5, hz6, hob, rfl, hP, hD, hS, hl⟩
      have e9 : fT (fT (fT vF 0 gb) 2 (vF 2)) 3 (vF 3) = fT vF 0 gb := by funext q9; by_cases h9_0 : q9 = 0; (subst h9_0; exact ((fT_ne _ _ (Nat.ne_of_beq_eq_false rfl)).trans ((fT_ne _ _ (Nat.ne_of_beq_eq_false rfl)).trans (fT_eq _ _ _))).trans (Eq.trans (by first | rfl | assumption | (symm; assumption) | (subst_vars; rfl)) (fT_eq _ _ _).symm)); by_cases h9_2 : q9 = 2; (subst h9_2; exact ((fT_ne _ _ (Nat.ne_of_beq_eq_false rfl)).trans (fT_eq _ _ _)).trans (Eq.trans (by first | rfl | assumption | (symm; assumption) | (subst_vars; rfl)) (fT_ne _ _ (Nat.ne_of_beq_eq_false rfl)).symm)); by_cases h9_3 : q9 = 3; (subst h9_3; exact (fT_eq _ _ _).trans (Eq.trans (by first | rfl | assumption | (symm; assumption) | (subst_vars; rfl)) (fT_ne _ _ (Nat.ne_of_beq_eq_false rfl)).symm)); exact ((fT_ne _ _ h9_3).trans ((fT_ne _ _ h9_2).trans (fT_ne _ _ h9_0))).trans (fT_ne _ _ h9_0).symm
      have hP : va_P (dC, dI) vwCl (WR a k h0 vi vj (fT (fT (fT vF 0 gb) 2 (vF 2)) 3 (vF 3)) vG) H := by rw [e9]; exact hP
      have hD : va_D A (WR a k h0 vi vj (fT (fT (fT vF 0 gb) 2 (vF 2)) 3 (vF 3)) vG) := by rw [e9]; exact hD
      clear e9
      have e9 : fT vG 1 (vG 1) = vG := by funext q9; by_cases h9_1 : q9 = 1; (subst h9_1; exact (fT_eq _ _ _).trans (Eq.trans (by first | rfl | assumption | (symm; assumption) | (subst_vars; rfl)) (Eq.refl _).symm)); exact (fT_ne _ _ h9_1).trans (Eq.refl _).symm
      have hP : va_P (dC, dI) vwCl (WR a k h0 vi vj (fT (fT (fT vF 0 gb) 2 (vF 2)) 3 (vF 3)) (fT vG 1 (vG 1))) H := by rw [e9]; exact hP
      have hD : va_D A (WR a k h0 vi vj (fT (fT (fT vF 0 gb) 2 (vF 2)) 3 (vF 3)) (fT vG 1 (vG 1))) := by rw [e9]; exact hD
      clear e9
      have hl : lv_has _ _ ([(0, .ref h0), (1, .int (nI sn))]) := lv_sub hl [0, 1] rfl
      refine (fun (loop : ∀ (n9 : Nat) (g : Nat → Int32) (f2 : Nat → Int32) (f3 : Nat → Int32) (gs1 : Nat → Int64) (m1 : Nat → Int) (x5 : Int) (x6 : Int) (H : Heap) (locs : List Loc) (ls : Array Slot), (Bg g m1) → (m1 5 = x5) → (m1 6 = x6) → (Int.gcd x5 x6 = Int.gcd xa xb) → (0 ≤ x5) → (0 ≤ x6) → (∀ q, (q < 5 ∨ 8 < q) → m1 q = mg q) →  (x6.natAbs < n9) → va_P (dC, dI) vwCl (WR a k h0 vi vj (fT (fT (fT vF 0 g) 2 f2) 3 f3) (fT vG 1 gs1)) H → va_D A (WR a k h0 vi vj (fT (fT (fT vF 0 g) 2 f2) 3 f3) (fT vG 1 gs1)) → va_S A s.heap H locs → lv_has ls 4 [(0, .ref h0), (1, .int (nI sn))] → W p l e _ s m _ below meth c H locs 0 0 _ (F0 m 41 ls [])) => loop ((z6).natAbs + 1) gb (vF 2) (vF 3) (vG 1) mb z5 z6 _ _ _ (hBb) ((by rw [v_z5])) ((by rw [v_z6])) (by rw [hz5, hz6]; rfl) (by omega) (by omega) (hob) (by omega) hP hD hS hl) ?_
      intro n9
      induction n9 with
      | zero => intro g f2 f3 gs1 m1 x5 x6 H locs ls hB1 v_x5 v_x6 hgc hp5 hp6 ho hf9; exact False.elim (by omega)
      | succ n9 ih41 =>
        intro g f2 f3 gs1 m1 x5 x6 H locs ls hB1 v_x5 v_x6 hgc hp5 hp6 ho hf41 hP hD hS hl
        refine lv_aload_n hx hb dX12_common_41 rfl (lv_at hl 0 rfl) ?_
        refine lv_bipush (v := 6) hx hb dX12_common_42 (by decide) ?_
        have hFc := allFree hD hS hA
        refine va_calli (va_runV (As := [.int 6]) (rest := []) ⟨hx, hb, hml, hown, hts⟩ (b_X12_sign l dC dI a k h0 vi vj (fT (fT (fT vF 0 g) 2 f2) 3 f3) (fT vG 1 gs1) 6 m1 hB1 x6 (by rw [v_x6]) (by first | assumption | decide | omega | rfl) H.size) (cwV 1 hts gwsRX12_common_1 rfl rfl rfl (by decide +kernel) ⟨by decide +kernel, by decide +kernel⟩) ⟨fun a U g mk q => by obtain ⟨q0, q1, qP, qK, qD⟩ := q; exact ⟨q0, q1, qP, va_K.moved (u := U) (U := U.calling g mk a) (Vm.Alike.refl U.vm) qK, qD⟩, va_recv hK hP (ci := 12) (q0 := 0) rfl rfl, fun U hU9 hW => ⟨rfl, by rw [hU9], by rw [hU9]; exact hP, va_K.moved hW.alike hK, hD.weaken (fun _ _ _ _ => trivial)⟩⟩ rfl rfl hl.1 rfl (lv_room (Nat.le_of_ble_eq_true rfl)) dX12_common_44 ⟨by decide +kernel, by decide +kernel⟩) hS (fun q _ h => hFc q h) hFc (fun r44 u t9_ H1 locs ht hvm hw9 hB9 hz1 hk1 hS => ?_)
        obtain ⟨hP1, hD1⟩ := hB9
        rw [ht] at hP1
        have hP := hP1
        have hD := hD1.weaken (fun _ q _ h => hFc q.1 h)
        generalize H1 = H at hP hS ⊢
        have hP : va_P (dC, dI) vwCl (WR a k h0 vi vj (fT (fT (fT vF 0 g) 2 f2) 3 f3) (fT vG 1 gs1)) H := hP
        have hD : va_D A (WR a k h0 vi vj (fT (fT (fT vF 0 g) 2 f2) 3 f3) (fT vG 1 gs1)) := hD
        have f44_0 := hw9
        try dsimp only at f44_0
        refine lv_if_le (tgt := 79) hx hb dX12_common_47 (by decide) (fun c_47 => ?_) (fun c_47 => ?_)
        · have t_47 : (r44).toInt ≤ 0 := toI_le c_47 rfl (by decide)
          refine lv_aload_n hx hb dX12_common_79 rfl (lv_at hl 0 rfl) ?_
          refine lv_iload_n hx hb dX12_common_80 rfl (lv_at hl 1 rfl) ?_
          refine lv_iconst (v := 5) hx hb dX12_common_81 (by decide) ?_
          have hFc := allFree hD hS hA
          refine va_callv (va_runV (As := [.int (nI sn), .int 5]) (rest := []) ⟨hx, hb, hml, hown, hts⟩ (b_X12_copy l dC dI a k h0 vi vj (fT (fT (fT vF 0 g) 2 f2) 3 f3) (fT vG 1 gs1) sn 5 m1 hB1 x5 (by rw [v_x5]) (by first | assumption | decide | omega | rfl) (by first | assumption | decide | omega | rfl) (by first | assumption | decide | omega | rfl) H.size) (cwV 2 hts gwsRX12_common_0 rfl rfl rfl (by decide +kernel) ⟨by decide +kernel, by decide +kernel⟩) ⟨fun a U g mk q => by obtain ⟨q0, q1, qP, qK, qD⟩ := q; exact ⟨q0, q1, qP, va_K.moved (u := U) (U := U.calling g mk a) (Vm.Alike.refl U.vm) qK, qD⟩, va_recv hK hP (ci := 12) (q0 := 0) rfl rfl, fun U hU9 hW => ⟨rfl, by rw [hU9], by rw [hU9]; exact hP, va_K.moved hW.alike hK, hD.weaken (fun _ _ _ _ => trivial)⟩⟩ rfl rfl hl.1 rfl (lv_room (Nat.le_of_ble_eq_true rfl)) dX12_common_82 ⟨by decide +kernel, by decide +kernel⟩) hS (fun q _ h => hFc q h) hFc (fun u t9_ H1 locs ht hvm hw9 hB9 hz1 hk1 hS => ?_)
          obtain ⟨g82, hwit82⟩ : ∃ w9, w9 = u := ⟨u, rfl⟩
          subst hwit82
          obtain ⟨hP1, hD1⟩ := hB9
          rw [ht] at hP1
          have hP := hP1
          have hD := hD1.weaken (fun _ q _ h => hFc q.1 h)
          generalize H1 = H at hP hS ⊢
          have hP : va_P (dC, dI) vwCl (WR a k h0 vi vj (fT (fT (fT (fT vF 0 g) 2 f2) 3 f3) 0 g82) (fT vG 1 gs1)) H := hP
          have hD : va_D A (WR a k h0 vi vj (fT (fT (fT (fT vF 0 g) 2 f2) 3 f3) 0 g82) (fT vG 1 gs1)) := hD
          have e9 : fT (fT (fT vF 0 g82) 2 f2) 3 f3 = fT (fT (fT (fT vF 0 g) 2 f2) 3 f3) 0 g82 := ((fT_sw _ _ _ (Nat.ne_of_beq_eq_false rfl)).trans (congrArg (fun g9 => fT g9 3 f3) ((fT_sw _ _ _ (Nat.ne_of_beq_eq_false rfl)).trans (congrArg (fun g9 => fT g9 2 f2) (fT_sm _ _ _ _))))).symm
          rw [← e9] at hP hD
          clear e9
          have hP : va_P (dC, dI) vwCl (WR a k h0 vi vj (fT (fT (fT vF 0 g82) 2 f2) 3 f3) (fT vG 1 gs1)) H := hP
          have hD : va_D A (WR a k h0 vi vj (fT (fT (fT vF 0 g82) 2 f2) 3 f3) (fT vG 1 gs1)) := hD
          have f82_0 := hw9
          try dsimp only at f82_0
          refine W.widen (k := 0) (n := 0) (by decide +kernel) (by decide +kernel) ?_
          exact W.vret hx hb hr (fun t9_ ht hW => ⟨⟨(g82, f2, f3, gs1, (fT m1 sn x5)), rfl, by (try dsimp only); exact ⟨f82_0, by rw [fT_eq, ← hgc]; exact gcd_end (by omega) hp5 (by omega), fun q h1 h2 => by rw [fT_ne _ _ h1]; exact ho q h2⟩, by rw [ht]; exact hP, hD⟩, hS.F ht⟩) hS.2.2 dX12_common_85
        · have t_47 : ¬ (r44).toInt ≤ 0 := toI_nle c_47 rfl (by decide)
          refine lv_aload_n hx hb dX12_common_50 rfl (lv_at hl 0 rfl) ?_
          refine lv_bipush (v := 7) hx hb dX12_common_51 (by decide) ?_
          refine lv_bipush (v := 8) hx hb dX12_common_53 (by decide) ?_
          refine lv_iconst (v := 5) hx hb dX12_common_55 (by decide) ?_
          refine lv_bipush (v := 6) hx hb dX12_common_56 (by decide) ?_
          have hFc := allFree hD hS hA
          refine va_callv (va_runV (As := [.int 7, .int 8, .int 5, .int 6]) (rest := []) ⟨hx, hb, hml, hown, hts⟩ (b_X12_divide l dC dI a k h0 vi vj (fT (fT (fT vF 0 g) 2 f2) 3 f3) (fT vG 1 gs1) 7 8 5 6 m1 hB1 x5 x6 (by rw [v_x5]) (by rw [v_x6]) (by first | assumption | decide | omega | rfl) (by first | assumption | decide | omega | rfl) (by first | assumption | decide | omega | rfl) (by first | assumption | decide | omega | rfl) (by first | assumption | decide | omega | rfl) (by first | assumption | decide | omega | rfl) (by first | assumption | decide | omega | rfl) H.size) (cwV 4 hts gwsRX12_common_3 rfl rfl rfl (by decide +kernel) ⟨by decide +kernel, by decide +kernel⟩) ⟨fun a U g mk q => by obtain ⟨q0, q1, qP, qK, qD⟩ := q; exact ⟨q0, q1, qP, va_K.moved (u := U) (U := U.calling g mk a) (Vm.Alike.refl U.vm) qK, qD⟩, va_recv hK hP (ci := 12) (q0 := 0) rfl rfl, fun U hU9 hW => ⟨rfl, by rw [hU9], by rw [hU9]; exact hP, va_K.moved hW.alike hK, hD.weaken (fun _ _ _ _ => trivial)⟩⟩ rfl rfl hl.1 rfl (lv_room (Nat.le_of_ble_eq_true rfl)) dX12_common_58 ⟨by decide +kernel, by decide +kernel⟩) hS (fun q _ h => hFc q h) hFc (fun u t9_ H1 locs ht hvm hw9 hB9 hz1 hk1 hS => ?_)
          obtain ⟨g58, f2w58, f3w58, gs58⟩ := u
          try dsimp only at hw9 hB9
          obtain ⟨hP1, hD1⟩ := hB9
          rw [ht] at hP1
          have hP := hP1
          have hD := hD1.weaken (fun _ q _ h => hFc q.1 h)
          generalize H1 = H at hP hS ⊢
          have hP : va_P (dC, dI) vwCl (WR a k h0 vi vj (fT (fT (fT (fT (fT (fT vF 0 g) 2 f2) 3 f3) 2 f2w58) 3 f3w58) 0 g58) (fT (fT vG 1 gs1) 1 gs58)) H := hP
          have hD : va_D A (WR a k h0 vi vj (fT (fT (fT (fT (fT (fT vF 0 g) 2 f2) 3 f3) 2 f2w58) 3 f3w58) 0 g58) (fT (fT vG 1 gs1) 1 gs58)) := hD
          have e9 : fT (fT (fT vF 0 g58) 2 f2w58) 3 f3w58 = fT (fT (fT (fT (fT (fT vF 0 g) 2 f2) 3 f3) 2 f2w58) 3 f3w58) 0 g58 := ((congrArg (fun g9 => fT (fT g9 3 f3w58) 0 g58) ((fT_sw _ _ _ (Nat.ne_of_beq_eq_false rfl)).trans (congrArg (fun g9 => fT g9 3 f3) (fT_sm _ _ _ _)))).trans ((congrArg (fun g9 => fT g9 0 g58) (fT_sm _ _ _ _)).trans ((fT_sw _ _ _ (Nat.ne_of_beq_eq_false rfl)).trans (congrArg (fun g9 => fT g9 3 f3w58) ((fT_sw _ _ _ (Nat.ne_of_beq_eq_false rfl)).trans (congrArg (fun g9 => fT g9 2 f2w58) (fT_sm _ _ _ _))))))).symm
          rw [← e9] at hP hD
          clear e9
          have e9 : fT vG 1 gs58 = fT (fT vG 1 gs1) 1 gs58 := (fT_sm _ _ _ _).symm
          rw [← e9] at hP hD
          clear e9
          have hP : va_P (dC, dI) vwCl (WR a k h0 vi vj (fT (fT (fT vF 0 g58) 2 f2w58) 3 f3w58) (fT vG 1 gs58)) H := hP
          have hD : va_D A (WR a k h0 vi vj (fT (fT (fT vF 0 g58) 2 f2w58) 3 f3w58) (fT vG 1 gs58)) := hD
          have f58_0 := hw9
          try dsimp only at f58_0
          refine lv_aload_n hx hb dX12_common_61 rfl (lv_at hl 0 rfl) ?_
          refine lv_iconst (v := 5) hx hb dX12_common_62 (by decide) ?_
          refine lv_bipush (v := 6) hx hb dX12_common_63 (by decide) ?_
          have hFc := allFree hD hS hA
          refine va_callv (va_runV (As := [.int 5, .int 6]) (rest := []) ⟨hx, hb, hml, hown, hts⟩ (b_X12_copy l dC dI a k h0 vi vj (fT (fT (fT vF 0 g58) 2 f2w58) 3 f3w58) (fT vG 1 gs58) 5 6 (fT (fT m1 7 ((x5).tdiv x6)) 8 ((x5).tmod x6)) f58_0 x6 (by rw [fT_ne _ _ (by omega), fT_ne _ _ (by omega), v_x6]) (by first | assumption | decide | omega | rfl) (by first | assumption | decide | omega | rfl) (by first | assumption | decide | omega | rfl) H.size) (cwV 2 hts gwsRX12_common_0 rfl rfl rfl (by decide +kernel) ⟨by decide +kernel, by decide +kernel⟩) ⟨fun a U g mk q => by obtain ⟨q0, q1, qP, qK, qD⟩ := q; exact ⟨q0, q1, qP, va_K.moved (u := U) (U := U.calling g mk a) (Vm.Alike.refl U.vm) qK, qD⟩, va_recv hK hP (ci := 12) (q0 := 0) rfl rfl, fun U hU9 hW => ⟨rfl, by rw [hU9], by rw [hU9]; exact hP, va_K.moved hW.alike hK, hD.weaken (fun _ _ _ _ => trivial)⟩⟩ rfl rfl hl.1 rfl (lv_room (Nat.le_of_ble_eq_true rfl)) dX12_common_65 ⟨by decide +kernel, by decide +kernel⟩) hS (fun q _ h => hFc q h) hFc (fun u t9_ H1 locs ht hvm hw9 hB9 hz1 hk1 hS => ?_)
          obtain ⟨g65, hwit65⟩ : ∃ w9, w9 = u := ⟨u, rfl⟩
          subst hwit65
          obtain ⟨hP1, hD1⟩ := hB9
          rw [ht] at hP1
          have hP := hP1
          have hD := hD1.weaken (fun _ q _ h => hFc q.1 h)
          generalize H1 = H at hP hS ⊢
          have hP : va_P (dC, dI) vwCl (WR a k h0 vi vj (fT (fT (fT (fT vF 0 g58) 2 f2w58) 3 f3w58) 0 g65) (fT vG 1 gs58)) H := hP
          have hD : va_D A (WR a k h0 vi vj (fT (fT (fT (fT vF 0 g58) 2 f2w58) 3 f3w58) 0 g65) (fT vG 1 gs58)) := hD
          have e9 : fT (fT (fT vF 0 g65) 2 f2w58) 3 f3w58 = fT (fT (fT (fT vF 0 g58) 2 f2w58) 3 f3w58) 0 g65 := ((fT_sw _ _ _ (Nat.ne_of_beq_eq_false rfl)).trans (congrArg (fun g9 => fT g9 3 f3w58) ((fT_sw _ _ _ (Nat.ne_of_beq_eq_false rfl)).trans (congrArg (fun g9 => fT g9 2 f2w58) (fT_sm _ _ _ _))))).symm
          rw [← e9] at hP hD
          clear e9
          have hP : va_P (dC, dI) vwCl (WR a k h0 vi vj (fT (fT (fT vF 0 g65) 2 f2w58) 3 f3w58) (fT vG 1 gs58)) H := hP
          have hD : va_D A (WR a k h0 vi vj (fT (fT (fT vF 0 g65) 2 f2w58) 3 f3w58) (fT vG 1 gs58)) := hD
          have f65_0 := hw9
          try dsimp only at f65_0
          refine lv_aload_n hx hb dX12_common_68 rfl (lv_at hl 0 rfl) ?_
          refine lv_bipush (v := 6) hx hb dX12_common_69 (by decide) ?_
          refine lv_bipush (v := 8) hx hb dX12_common_71 (by decide) ?_
          have hFc := allFree hD hS hA
          refine va_callv (va_runV (As := [.int 6, .int 8]) (rest := []) ⟨hx, hb, hml, hown, hts⟩ (b_X12_copy l dC dI a k h0 vi vj (fT (fT (fT vF 0 g65) 2 f2w58) 3 f3w58) (fT vG 1 gs58) 6 8 (fT (fT (fT m1 7 ((x5).tdiv x6)) 8 ((x5).tmod x6)) 5 x6) f65_0 ((x5).tmod x6) (by rw [fT_ne _ _ (by omega), fT_eq]) (by first | assumption | decide | omega | rfl) (by first | assumption | decide | omega | rfl) (by first | assumption | decide | omega | rfl) H.size) (cwV 2 hts gwsRX12_common_0 rfl rfl rfl (by decide +kernel) ⟨by decide +kernel, by decide +kernel⟩) ⟨fun a U g mk q => by obtain ⟨q0, q1, qP, qK, qD⟩ := q; exact ⟨q0, q1, qP, va_K.moved (u := U) (U := U.calling g mk a) (Vm.Alike.refl U.vm) qK, qD⟩, va_recv hK hP (ci := 12) (q0 := 0) rfl rfl, fun U hU9 hW => ⟨rfl, by rw [hU9], by rw [hU9]; exact hP, va_K.moved hW.alike hK, hD.weaken (fun _ _ _ _ => trivial)⟩⟩ rfl rfl hl.1 rfl (lv_room (Nat.le_of_ble_eq_true rfl)) dX12_common_73 ⟨by decide +kernel, by decide +kernel⟩) hS (fun q _ h => hFc q h) hFc (fun u t9_ H1 locs ht hvm hw9 hB9 hz1 hk1 hS => ?_)
          obtain ⟨g73, hwit73⟩ : ∃ w9, w9 = u := ⟨u, rfl⟩
          subst hwit73
          obtain ⟨hP1, hD1⟩ := hB9
          rw [ht] at hP1
          have hP := hP1
          have hD := hD1.weaken (fun _ q _ h => hFc q.1 h)
          generalize H1 = H at hP hS ⊢
          have hP : va_P (dC, dI) vwCl (WR a k h0 vi vj (fT (fT (fT (fT vF 0 g65) 2 f2w58) 3 f3w58) 0 g73) (fT vG 1 gs58)) H := hP
          have hD : va_D A (WR a k h0 vi vj (fT (fT (fT (fT vF 0 g65) 2 f2w58) 3 f3w58) 0 g73) (fT vG 1 gs58)) := hD
          have e9 : fT (fT (fT vF 0 g73) 2 f2w58) 3 f3w58 = fT (fT (fT (fT vF 0 g65) 2 f2w58) 3 f3w58) 0 g73 := ((fT_sw _ _ _ (Nat.ne_of_beq_eq_false rfl)).trans (congrArg (fun g9 => fT g9 3 f3w58) ((fT_sw _ _ _ (Nat.ne_of_beq_eq_false rfl)).trans (congrArg (fun g9 => fT g9 2 f2w58) (fT_sm _ _ _ _))))).symm
          rw [← e9] at hP hD
          clear e9
          have hP : va_P (dC, dI) vwCl (WR a k h0 vi vj (fT (fT (fT vF 0 g73) 2 f2w58) 3 f3w58) (fT vG 1 gs58)) H := hP
          have hD : va_D A (WR a k h0 vi vj (fT (fT (fT vF 0 g73) 2 f2w58) 3 f3w58) (fT vG 1 gs58)) := hD
          have f73_0 := hw9
          try dsimp only at f73_0
          refine lv_goto (tgt := 41) hx hb dX12_common_76 (by decide) ?_
          have hl : lv_has _ _ ([(0, .ref h0), (1, .int (nI sn))]) := lv_sub hl [0, 1] rfl
          exact ih41 g73 f2w58 f3w58 gs58 (fT (fT (fT (fT m1 7 ((x5).tdiv x6)) 8 ((x5).tmod x6)) 5 x6) 6 ((x5).tmod x6)) x6 ((x5).tmod x6) _ _ _ (f73_0) ((by rw [fT_ne _ _ (by omega), fT_eq])) ((by rw [fT_eq])) ((gcd_step x5 x6).trans hgc) (by omega) (tmod_nn hp5 x6) (fun q hq => by (rw [fT_ne _ _ (by omega), fT_ne _ _ (by omega), fT_ne _ _ (by omega), fT_ne _ _ (by omega)]); exact ho q hq) (by have h9 := tmod_abs (x := x5) (y := x6) (by omega); omega) hP hD hS hl
theorem dX12_shorten_0 : decode cX12_shorten 0 = .ok (.aload_n 0, 1) := dk_42 (by decide +kernel)
theorem dX12_shorten_1 : decode cX12_shorten 1 = .ok (.iload_n 2, 1) := dk_28 (by decide +kernel)
theorem dX12_shorten_2 : decode cX12_shorten 2 = .ok (.invokevirtual 353, 3) := dk_182 (by decide +kernel)
theorem dX12_shorten_5 : decode cX12_shorten 5 = .ok (.ifCond .ge 13, 3) := dk_156 (by decide +kernel)
theorem dX12_shorten_8 : decode cX12_shorten 8 = .ok (.aload_n 0, 1) := dk_42 (by decide +kernel)
theorem dX12_shorten_9 : decode cX12_shorten 9 = .ok (.iload_n 1, 1) := dk_27 (by decide +kernel)
theorem dX12_shorten_10 : decode cX12_shorten 10 = .ok (.invokevirtual 379, 3) := dk_182 (by decide +kernel)
theorem dX12_shorten_13 : decode cX12_shorten 13 = .ok (.aload_n 0, 1) := dk_42 (by decide +kernel)
theorem dX12_shorten_14 : decode cX12_shorten 14 = .ok (.iload_n 2, 1) := dk_28 (by decide +kernel)
theorem dX12_shorten_15 : decode cX12_shorten 15 = .ok (.invokevirtual 379, 3) := dk_182 (by decide +kernel)
theorem dX12_shorten_18 : decode cX12_shorten 18 = .ok (.aload_n 0, 1) := dk_42 (by decide +kernel)
theorem dX12_shorten_19 : decode cX12_shorten 19 = .ok (.bipush 9, 2) := dk_16 (by decide +kernel)
theorem dX12_shorten_21 : decode cX12_shorten 21 = .ok (.iload_n 1, 1) := dk_27 (by decide +kernel)
theorem dX12_shorten_22 : decode cX12_shorten 22 = .ok (.iload_n 2, 1) := dk_28 (by decide +kernel)
theorem dX12_shorten_23 : decode cX12_shorten 23 = .ok (.invokevirtual 387, 3) := dk_182 (by decide +kernel)
theorem dX12_shorten_26 : decode cX12_shorten 26 = .ok (.aload_n 0, 1) := dk_42 (by decide +kernel)
theorem dX12_shorten_27 : decode cX12_shorten 27 = .ok (.bipush 7, 2) := dk_16 (by decide +kernel)
theorem dX12_shorten_29 : decode cX12_shorten 29 = .ok (.bipush 8, 2) := dk_16 (by decide +kernel)
theorem dX12_shorten_31 : decode cX12_shorten 31 = .ok (.iload_n 1, 1) := dk_27 (by decide +kernel)
theorem dX12_shorten_32 : decode cX12_shorten 32 = .ok (.bipush 9, 2) := dk_16 (by decide +kernel)
theorem dX12_shorten_34 : decode cX12_shorten 34 = .ok (.invokevirtual 383, 3) := dk_182 (by decide +kernel)
theorem dX12_shorten_37 : decode cX12_shorten 37 = .ok (.aload_n 0, 1) := dk_42 (by decide +kernel)
theorem dX12_shorten_38 : decode cX12_shorten 38 = .ok (.iload_n 1, 1) := dk_27 (by decide +kernel)
theorem dX12_shorten_39 : decode cX12_shorten 39 = .ok (.bipush 7, 2) := dk_16 (by decide +kernel)
theorem dX12_shorten_41 : decode cX12_shorten 41 = .ok (.invokevirtual 365, 3) := dk_182 (by decide +kernel)
theorem dX12_shorten_44 : decode cX12_shorten 44 = .ok (.aload_n 0, 1) := dk_42 (by decide +kernel)
theorem dX12_shorten_45 : decode cX12_shorten 45 = .ok (.bipush 7, 2) := dk_16 (by decide +kernel)
theorem dX12_shorten_47 : decode cX12_shorten 47 = .ok (.bipush 8, 2) := dk_16 (by decide +kernel)
theorem dX12_shorten_49 : decode cX12_shorten 49 = .ok (.iload_n 2, 1) := dk_28 (by decide +kernel)
theorem dX12_shorten_50 : decode cX12_shorten 50 = .ok (.bipush 9, 2) := dk_16 (by decide +kernel)
theorem dX12_shorten_52 : decode cX12_shorten 52 = .ok (.invokevirtual 383, 3) := dk_182 (by decide +kernel)
theorem dX12_shorten_55 : decode cX12_shorten 55 = .ok (.aload_n 0, 1) := dk_42 (by decide +kernel)
theorem dX12_shorten_56 : decode cX12_shorten 56 = .ok (.iload_n 2, 1) := dk_28 (by decide +kernel)
theorem dX12_shorten_57 : decode cX12_shorten 57 = .ok (.bipush 7, 2) := dk_16 (by decide +kernel)
theorem dX12_shorten_59 : decode cX12_shorten 59 = .ok (.invokevirtual 365, 3) := dk_182 (by decide +kernel)
theorem dX12_shorten_62 : decode cX12_shorten 62 = .ok (.return_, 1) := dk_177 (by decide +kernel)
def wsRX12_shorten : List Cond := .code yX12_shorten cX12_shorten 3 none :: ([] ++ wsX120 ++ (wsV RX12 353 RX12 yX12_sign wsRX12_sign) ++ (wsV RX12 387 RX12 yX12_common wsRX12_common) ++ (wsV RX12 383 RX12 yX12_divide wsRX12_divide) ++ (wsV RX12 365 RX12 yX12_copy wsRX12_copy) ++ (wsV RX12 379 RX12 yX12_turn wsRX12_turn))
theorem iwsRX12_shorten_in12 : ∀ w ∈ wsX120, w ∈ wsRX12_shorten := fun _ h => List.mem_cons_of_mem _ (List.mem_append_left _ (List.mem_append_left _ (List.mem_append_left _ (List.mem_append_left _ (List.mem_append_left _ (List.mem_append_right _ h))))))
theorem gwsRX12_shorten_0 : GoodIn wsRX12_shorten (wsV RX12 353 RX12 yX12_sign wsRX12_sign) := goodIn_sub (fun _ h => List.mem_cons_of_mem _ (List.mem_append_left _ (List.mem_append_left _ (List.mem_append_left _ (List.mem_append_left _ (List.mem_append_right _ h)))))) (gdV (by decide +kernel) gdwsRX12_sign)
theorem gwsRX12_shorten_1 : GoodIn wsRX12_shorten (wsV RX12 387 RX12 yX12_common wsRX12_common) := goodIn_sub (fun _ h => List.mem_cons_of_mem _ (List.mem_append_left _ (List.mem_append_left _ (List.mem_append_left _ (List.mem_append_right _ h))))) (gdV (by decide +kernel) gdwsRX12_common)
theorem gwsRX12_shorten_2 : GoodIn wsRX12_shorten (wsV RX12 383 RX12 yX12_divide wsRX12_divide) := goodIn_sub (fun _ h => List.mem_cons_of_mem _ (List.mem_append_left _ (List.mem_append_left _ (List.mem_append_right _ h)))) (gdV (by decide +kernel) gdwsRX12_divide)
theorem gwsRX12_shorten_3 : GoodIn wsRX12_shorten (wsV RX12 365 RX12 yX12_copy wsRX12_copy) := goodIn_sub (fun _ h => List.mem_cons_of_mem _ (List.mem_append_left _ (List.mem_append_right _ h))) (gdV (by decide +kernel) gdwsRX12_copy)
theorem gwsRX12_shorten_4 : GoodIn wsRX12_shorten (wsV RX12 379 RX12 yX12_turn wsRX12_turn) := goodIn_sub (fun _ h => List.mem_cons_of_mem _ (List.mem_append_right _ h)) (gdV (by decide +kernel) gdwsRX12_turn)
theorem gdwsRX12_shorten : wsRX12_shorten.all goodWord = true := gdC rfl (gdA (gdA (gdA (gdA (gdA (gdA (by decide +kernel : ([] : List Cond).all goodWord = true) gdwsX120) (gdV (by decide +kernel) gdwsRX12_sign)) (gdV (by decide +kernel) gdwsRX12_common)) (gdV (by decide +kernel) gdwsRX12_divide)) (gdV (by decide +kernel) gdwsRX12_copy)) (gdV (by decide +kernel) gdwsRX12_turn))
set_option maxHeartbeats 4000000 in
set_option maxRecDepth 100000 in
/-- shorten(n, d) -/
theorem r_X12_shorten (l : Launch) (dC : Nat → ClassId) (dI : Nat → Nat → Nat) (a : Nat → Nat) (k : Nat → ClassId) (h0 : Nat) (vi : Nat → Int32) (vj : Nat → Int64) (vF : Nat → Nat → Int32) (vG : Nat → Nat → Int64) (an : Nat) (bn : Nat) (mg : Nat → Int) (hBg : Bg (vF 0) mg) (xa : Int) (xb : Int) (v_xa : mg an = xa) (v_xb : mg bn = xb) (hna : an < 1100) (hnb : bn < 1100) (hab : an ≠ bn) (h59a : (an < 5 ∨ 9 < an)) (h59b : (bn < 5 ∨ 9 < bn)) (hb0 : xb ≠ 0) (sz : Nat) : Met l yX12_shorten wsRX12_shorten ({ frames := 3, cells := 0, slots := 0, locals := 85 }) (va_Pc [.ref h0, .int (nI an), .int (nI bn)] (fun U => U.heap.size = sz ∧ va_P (dC, dI) vwCl (WR a k h0 vi vj vF vG) U.heap ∧ va_K (dC, dI) vwCl (tX12 k) U ∧ va_D (fun _ => True) (WR a k h0 vi vj vF vG))) (va_Qv (fun (u : (Nat → Int32) × (Nat → Int32) × (Nat → Int32) × (Nat → Int64) × (Nat → Int)) => (Bg (u.1) (u.2.2.2.2)) ∧ (((u.2.2.2.2) an).natAbs ≤ xa.natAbs) ∧ (((u.2.2.2.2) bn).natAbs ≤ xb.natAbs) ∧ (∀ q, q ≠ an → q ≠ bn → (q < 5 ∨ 9 < q) → (u.2.2.2.2) q = mg q) ∧ (0 < (u.2.2.2.2) bn)) (fun (u : (Nat → Int32) × (Nat → Int32) × (Nat → Int32) × (Nat → Int64) × (Nat → Int)) t => va_P (dC, dI) vwCl (WR a k h0 vi vj (fT (fT (fT vF 0 (u.1)) 2 (u.2.1)) 3 (u.2.2.1)) (fT vG 1 (u.2.2.2.1))) t.heap ∧ va_D (va_A (WR a k h0 vi vj vF vG) sz) (WR a k h0 vi vj (fT (fT (fT vF 0 (u.1)) 2 (u.2.1)) 3 (u.2.2.1)) (fT vG 1 (u.2.2.2.1)))) (va_A (WR a k h0 vi vj vF vG) sz)) 0 0 (va_A (WR a k h0 vi vj vF vG) sz) := by
  refine Met.ofW (cc := cX12_shorten) (maxL := 3) (ret := none) (by decide) rfl ?_
  intro p e s m args below meth c s₁ B hml hv
  obtain ⟨rfl, hsz, hP, hK, hD0⟩ := hv
  have hx := B.exec
  have hb := B.bytes
  have hr := B.returns
  have hts := atoms_spec (ws := wsRX12_shorten) B.pre
  have hown : s.vm.findClass RX12 = some m.cls := findClass_of_methodNamed B.named
  have hlocks := B.notSynchronized
  subst hsz
  have hD := hD0.self (sz := s.heap.size)
  generalize hAe : va_A (WR a k h0 vi vj vF vG) s.heap.size = A at hD ⊢
  have hA : ∀ q : Nat, s.heap.size ≤ q → A q := fun q h => by rw [← hAe]; exact Or.inr h
  have hS : va_S A s.heap s.heap [] := va_S.rf
  have hl := lv_entry ([.ref h0, .int (nI an), .int (nI bn)]) (n := 3) (Nat.le_of_ble_eq_true rfl)
  rw [lg_entry_eq]
  generalize (lg_sl ([.ref h0, .int (nI an), .int (nI bn)]) ++ List.replicate (3 - (lg_sl ([.ref h0, .int (nI an), .int (nI bn)])).length) Slot.unset).toArray = ls at hl ⊢
  have hl : lv_has ls 3 [(0, .ref h0), (1, .int (nI an)), (2, .int (nI bn))] := hl
  refine lv_aload_n hx hb dX12_shorten_0 rfl (lv_at hl 0 rfl) ?_
  refine lv_iload_n hx hb dX12_shorten_1 rfl (lv_at hl 2 rfl) ?_
  have hFc := allFree hD hS hA
  refine va_calli (va_runV (As := [.int (nI bn)]) (rest := []) ⟨hx, hb, hml, hown, hts⟩ (b_X12_sign l dC dI a k h0 vi vj vF vG bn mg hBg xb (by rw [v_xb]) (by first | assumption | decide | omega | rfl) s.heap.size) (cwV 1 hts gwsRX12_shorten_0 rfl rfl rfl (by decide +kernel) ⟨by decide +kernel, by decide +kernel⟩) ⟨fun a U g mk q => by obtain ⟨q0, q1, qP, qK, qD⟩ := q; exact ⟨q0, q1, qP, va_K.moved (u := U) (U := U.calling g mk a) (Vm.Alike.refl U.vm) qK, qD⟩, va_recv hK hP (ci := 12) (q0 := 0) rfl rfl, fun U hU9 hW => ⟨rfl, by rw [hU9], by rw [hU9]; exact hP, va_K.moved hW.alike hK, hD.weaken (fun _ _ _ _ => trivial)⟩⟩ rfl rfl hl.1 rfl (lv_room (Nat.le_of_ble_eq_true rfl)) dX12_shorten_2 ⟨by decide +kernel, by decide +kernel⟩) hS (fun q _ h => hFc q h) hFc (fun r2 u t9_ H1 locs ht hvm hw9 hB9 hz1 hk1 hS => ?_)
  obtain ⟨hP1, hD1⟩ := hB9
  rw [ht] at hP1
  have hP := hP1
  have hD := hD1.weaken (fun _ q _ h => hFc q.1 h)
  generalize H1 = H at hP hS ⊢
  have hP : va_P (dC, dI) vwCl (WR a k h0 vi vj vF vG) H := hP
  have hD : va_D A (WR a k h0 vi vj vF vG) := hD
  have f2_0 := hw9
  try dsimp only at f2_0
  refine lv_if_ge (tgt := 18) hx hb dX12_shorten_5 (by decide) (fun c_5 => ?_) (fun c_5 => ?_)
  · have t_5 : (r2).toInt ≥ 0 := toI_ge c_5 rfl (by decide)
    refine lv_aload_n hx hb dX12_shorten_18 rfl (lv_at hl 0 rfl) ?_
    refine lv_bipush (v := 9) hx hb dX12_shorten_19 (by decide) ?_
    refine lv_iload_n hx hb dX12_shorten_21 rfl (lv_at hl 1 rfl) ?_
    refine lv_iload_n hx hb dX12_shorten_22 rfl (lv_at hl 2 rfl) ?_
    have hFc := allFree hD hS hA
    refine va_callv (va_runV (As := [.int 9, .int (nI an), .int (nI bn)]) (rest := []) ⟨hx, hb, hml, hown, hts⟩ (r_X12_common l dC dI a k h0 vi vj vF vG 9 an bn mg hBg xa xb (by rw [v_xa]) (by rw [v_xb]) (by first | assumption | decide | omega | rfl) (by first | assumption | decide | omega | rfl) (by first | assumption | decide | omega | rfl) (by first | assumption | decide | omega | rfl) (by first | assumption | decide | omega | rfl) (by first | assumption | decide | omega | rfl) H.size) (cwV 3 hts gwsRX12_shorten_1 rfl rfl rfl (by decide +kernel) ⟨by decide +kernel, by decide +kernel⟩) ⟨fun a U g mk q => by obtain ⟨q0, q1, qP, qK, qD⟩ := q; exact ⟨q0, q1, qP, va_K.moved (u := U) (U := U.calling g mk a) (Vm.Alike.refl U.vm) qK, qD⟩, va_recv hK hP (ci := 12) (q0 := 0) rfl rfl, fun U hU9 hW => ⟨rfl, by rw [hU9], by rw [hU9]; exact hP, va_K.moved hW.alike hK, hD.weaken (fun _ _ _ _ => trivial)⟩⟩ rfl rfl hl.1 rfl (lv_room (Nat.le_of_ble_eq_true rfl)) dX12_shorten_23 ⟨by decide +kernel, by decide +kernel⟩) hS (fun q _ h => hFc q h) hFc (fun u t9_ H1 locs ht hvm hw9 hB9 hz1 hk1 hS => ?_)
    obtain ⟨g23, f2w23, f3w23, gs23, m223⟩ := u
    try dsimp only at hw9 hB9
    obtain ⟨hP1, hD1⟩ := hB9
    rw [ht] at hP1
    have hP := hP1
    have hD := hD1.weaken (fun _ q _ h => hFc q.1 h)
    generalize H1 = H at hP hS ⊢
    have hP : va_P (dC, dI) vwCl (WR a k h0 vi vj (fT (fT (fT vF 0 g23) 2 f2w23) 3 f3w23) (fT vG 1 gs23)) H := hP
    have hD : va_D A (WR a k h0 vi vj (fT (fT (fT vF 0 g23) 2 f2w23) 3 f3w23) (fT vG 1 gs23)) := hD
    obtain ⟨f23_0, f23_1, f23_2⟩ := hw9
    refine lv_aload_n hx hb dX12_shorten_26 rfl (lv_at hl 0 rfl) ?_
    refine lv_bipush (v := 7) hx hb dX12_shorten_27 (by decide) ?_
    refine lv_bipush (v := 8) hx hb dX12_shorten_29 (by decide) ?_
    refine lv_iload_n hx hb dX12_shorten_31 rfl (lv_at hl 1 rfl) ?_
    refine lv_bipush (v := 9) hx hb dX12_shorten_32 (by decide) ?_
    have hFc := allFree hD hS hA
    refine va_callv (va_runV (As := [.int 7, .int 8, .int (nI an), .int 9]) (rest := []) ⟨hx, hb, hml, hown, hts⟩ (b_X12_divide l dC dI a k h0 vi vj (fT (fT (fT vF 0 g23) 2 f2w23) 3 f3w23) (fT vG 1 gs23) 7 8 an 9 m223 f23_0 xa ((Int.gcd xa xb : Nat) : Int) (by rw [f23_2 _ (by omega) (by omega), v_xa]) (by rw [f23_1]) (by first | assumption | decide | omega | rfl) (by first | assumption | decide | omega | rfl) (by first | assumption | decide | omega | rfl) (by first | assumption | decide | omega | rfl) (by first | assumption | decide | omega | rfl) (by first | assumption | decide | omega | rfl) (gcd_ne (Or.inr (by omega))) H.size) (cwV 4 hts gwsRX12_shorten_2 rfl rfl rfl (by decide +kernel) ⟨by decide +kernel, by decide +kernel⟩) ⟨fun a U g mk q => by obtain ⟨q0, q1, qP, qK, qD⟩ := q; exact ⟨q0, q1, qP, va_K.moved (u := U) (U := U.calling g mk a) (Vm.Alike.refl U.vm) qK, qD⟩, va_recv hK hP (ci := 12) (q0 := 0) rfl rfl, fun U hU9 hW => ⟨rfl, by rw [hU9], by rw [hU9]; exact hP, va_K.moved hW.alike hK, hD.weaken (fun _ _ _ _ => trivial)⟩⟩ rfl rfl hl.1 rfl (lv_room (Nat.le_of_ble_eq_true rfl)) dX12_shorten_34 ⟨by decide +kernel, by decide +kernel⟩) hS (fun q _ h => hFc q h) hFc (fun u t9_ H1 locs ht hvm hw9 hB9 hz1 hk1 hS => ?_)
    obtain ⟨g34, f2w34, f3w34, gs34⟩ := u
    try dsimp only at hw9 hB9
    obtain ⟨hP1, hD1⟩ := hB9
    rw [ht] at hP1
    have hP := hP1
    have hD := hD1.weaken (fun _ q _ h => hFc q.1 h)
    generalize H1 = H at hP hS ⊢
    have hP : va_P (dC, dI) vwCl (WR a k h0 vi vj (fT (fT (fT (fT (fT (fT vF 0 g23) 2 f2w23) 3 f3w23) 2 f2w34) 3 f3w34) 0 g34) (fT (fT vG 1 gs23) 1 gs34)) H := hP
    have hD : va_D A (WR a k h0 vi vj (fT (fT (fT (fT (fT (fT vF 0 g23) 2 f2w23) 3 f3w23) 2 f2w34) 3 f3w34) 0 g34) (fT (fT vG 1 gs23) 1 gs34)) := hD
    have e9 : fT (fT (fT vF 0 g34) 2 f2w34) 3 f3w34 = fT (fT (fT (fT (fT (fT vF 0 g23) 2 f2w23) 3 f3w23) 2 f2w34) 3 f3w34) 0 g34 := ((congrArg (fun g9 => fT (fT g9 3 f3w34) 0 g34) ((fT_sw _ _ _ (Nat.ne_of_beq_eq_false rfl)).trans (congrArg (fun g9 => fT g9 3 f3w23) (fT_sm _ _ _ _)))).trans ((congrArg (fun g9 => fT g9 0 g34) (fT_sm _ _ _ _)).trans ((fT_sw _ _ _ (Nat.ne_of_beq_eq_false rfl)).trans (congrArg (fun g9 => fT g9 3 f3w34) ((fT_sw _ _ _ (Nat.ne_of_beq_eq_false rfl)).trans (congrArg (fun g9 => fT g9 2 f2w34) (fT_sm _ _ _ _))))))).symm
    rw [← e9] at hP hD
    clear e9
    have e9 : fT vG 1 gs34 = fT (fT vG 1 gs23) 1 gs34 := (fT_sm _ _ _ _).symm
    rw [← e9] at hP hD
    clear e9
    have hP : va_P (dC, dI) vwCl (WR a k h0 vi vj (fT (fT (fT vF 0 g34) 2 f2w34) 3 f3w34) (fT vG 1 gs34)) H := hP
    have hD : va_D A (WR a k h0 vi vj (fT (fT (fT vF 0 g34) 2 f2w34) 3 f3w34) (fT vG 1 gs34)) := hD
    have f34_0 := hw9
    try dsimp only at f34_0
    refine lv_aload_n hx hb dX12_shorten_37 rfl (lv_at hl 0 rfl) ?_
    refine lv_iload_n hx hb dX12_shorten_38 rfl (lv_at hl 1 rfl) ?_
    refine lv_bipush (v := 7) hx hb dX12_shorten_39 (by decide) ?_
    have hFc := allFree hD hS hA
    refine va_callv (va_runV (As := [.int (nI an), .int 7]) (rest := []) ⟨hx, hb, hml, hown, hts⟩ (b_X12_copy l dC dI a k h0 vi vj (fT (fT (fT vF 0 g34) 2 f2w34) 3 f3w34) (fT vG 1 gs34) an 7 (fT (fT m223 7 ((xa).tdiv ((Int.gcd xa xb : Nat) : Int))) 8 ((xa).tmod ((Int.gcd xa xb : Nat) : Int))) f34_0 ((xa).tdiv ((Int.gcd xa xb : Nat) : Int)) (by rw [fT_ne _ _ (by omega), fT_eq]) (by first | assumption | decide | omega | rfl) (by first | assumption | decide | omega | rfl) (by first | assumption | decide | omega | rfl) H.size) (cwV 2 hts gwsRX12_shorten_3 rfl rfl rfl (by decide +kernel) ⟨by decide +kernel, by decide +kernel⟩) ⟨fun a U g mk q => by obtain ⟨q0, q1, qP, qK, qD⟩ := q; exact ⟨q0, q1, qP, va_K.moved (u := U) (U := U.calling g mk a) (Vm.Alike.refl U.vm) qK, qD⟩, va_recv hK hP (ci := 12) (q0 := 0) rfl rfl, fun U hU9 hW => ⟨rfl, by rw [hU9], by rw [hU9]; exact hP, va_K.moved hW.alike hK, hD.weaken (fun _ _ _ _ => trivial)⟩⟩ rfl rfl hl.1 rfl (lv_room (Nat.le_of_ble_eq_true rfl)) dX12_shorten_41 ⟨by decide +kernel, by decide +kernel⟩) hS (fun q _ h => hFc q h) hFc (fun u t9_ H1 locs ht hvm hw9 hB9 hz1 hk1 hS => ?_)
    obtain ⟨g41, hwit41⟩ : ∃ w9, w9 = u := ⟨u, rfl⟩
    subst hwit41
    obtain ⟨hP1, hD1⟩ := hB9
    rw [ht] at hP1
    have hP := hP1
    have hD := hD1.weaken (fun _ q _ h => hFc q.1 h)
    generalize H1 = H at hP hS ⊢
    have hP : va_P (dC, dI) vwCl (WR a k h0 vi vj (fT (fT (fT (fT vF 0 g34) 2 f2w34) 3 f3w34) 0 g41) (fT vG 1 gs34)) H := hP
    have hD : va_D A (WR a k h0 vi vj (fT (fT (fT (fT vF 0 g34) 2 f2w34) 3 f3w34) 0 g41) (fT vG 1 gs34)) := hD
    have e9 : fT (fT (fT vF 0 g41) 2 f2w34) 3 f3w34 = fT (fT (fT (fT vF 0 g34) 2 f2w34) 3 f3w34) 0 g41 := ((fT_sw _ _ _ (Nat.ne_of_beq_eq_false rfl)).trans (congrArg (fun g9 => fT g9 3 f3w34) ((fT_sw _ _ _ (Nat.ne_of_beq_eq_false rfl)).trans (congrArg (fun g9 => fT g9 2 f2w34) (fT_sm _ _ _ _))))).symm
    rw [← e9] at hP hD
    clear e9
    have hP : va_P (dC, dI) vwCl (WR a k h0 vi vj (fT (fT (fT vF 0 g41) 2 f2w34) 3 f3w34) (fT vG 1 gs34)) H := hP
    have hD : va_D A (WR a k h0 vi vj (fT (fT (fT vF 0 g41) 2 f2w34) 3 f3w34) (fT vG 1 gs34)) := hD
    have f41_0 := hw9
    try dsimp only at f41_0
    refine lv_aload_n hx hb dX12_shorten_44 rfl (lv_at hl 0 rfl) ?_
    refine lv_bipush (v := 7) hx hb dX12_shorten_45 (by decide) ?_
    refine lv_bipush (v := 8) hx hb dX12_shorten_47 (by decide) ?_
    refine lv_iload_n hx hb dX12_shorten_49 rfl (lv_at hl 2 rfl) ?_
    refine lv_bipush (v := 9) hx hb dX12_shorten_50 (by decide) ?_
    have hFc := allFree hD hS hA
    refine va_callv (va_runV (As := [.int 7, .int 8, .int (nI bn), .int 9]) (rest := []) ⟨hx, hb, hml, hown, hts⟩ (b_X12_divide l dC dI a k h0 vi vj (fT (fT (fT vF 0 g41) 2 f2w34) 3 f3w34) (fT vG 1 gs34) 7 8 bn 9 (fT (fT (fT m223 7 ((xa).tdiv ((Int.gcd xa xb : Nat) : Int))) 8 ((xa).tmod ((Int.gcd xa xb : Nat) : Int))) an ((xa).tdiv ((Int.gcd xa xb : Nat) : Int))) f41_0 xb ((Int.gcd xa xb : Nat) : Int) (by rw [fT_ne _ _ (by omega), fT_ne _ _ (by omega), fT_ne _ _ (by omega), f23_2 _ (by omega) (by omega), v_xb]) (by rw [fT_ne _ _ (by omega), fT_ne _ _ (by omega), fT_ne _ _ (by omega), f23_1]) (by first | assumption | decide | omega | rfl) (by first | assumption | decide | omega | rfl) (by first | assumption | decide | omega | rfl) (by first | assumption | decide | omega | rfl) (by first | assumption | decide | omega | rfl) (by first | assumption | decide | omega | rfl) (gcd_ne (Or.inr (by omega))) H.size) (cwV 4 hts gwsRX12_shorten_2 rfl rfl rfl (by decide +kernel) ⟨by decide +kernel, by decide +kernel⟩) ⟨fun a U g mk q => by obtain ⟨q0, q1, qP, qK, qD⟩ := q; exact ⟨q0, q1, qP, va_K.moved (u := U) (U := U.calling g mk a) (Vm.Alike.refl U.vm) qK, qD⟩, va_recv hK hP (ci := 12) (q0 := 0) rfl rfl, fun U hU9 hW => ⟨rfl, by rw [hU9], by rw [hU9]; exact hP, va_K.moved hW.alike hK, hD.weaken (fun _ _ _ _ => trivial)⟩⟩ rfl rfl hl.1 rfl (lv_room (Nat.le_of_ble_eq_true rfl)) dX12_shorten_52 ⟨by decide +kernel, by decide +kernel⟩) hS (fun q _ h => hFc q h) hFc (fun u t9_ H1 locs ht hvm hw9 hB9 hz1 hk1 hS => ?_)
    obtain ⟨g52, f2w52, f3w52, gs52⟩ := u
    try dsimp only at hw9 hB9
    obtain ⟨hP1, hD1⟩ := hB9
    rw [ht] at hP1
    have hP := hP1
    have hD := hD1.weaken (fun _ q _ h => hFc q.1 h)
    generalize H1 = H at hP hS ⊢
    have hP : va_P (dC, dI) vwCl (WR a k h0 vi vj (fT (fT (fT (fT (fT (fT vF 0 g41) 2 f2w34) 3 f3w34) 2 f2w52) 3 f3w52) 0 g52) (fT (fT vG 1 gs34) 1 gs52)) H := hP
    have hD : va_D A (WR a k h0 vi vj (fT (fT (fT (fT (fT (fT vF 0 g41) 2 f2w34) 3 f3w34) 2 f2w52) 3 f3w52) 0 g52) (fT (fT vG 1 gs34) 1 gs52)) := hD
    have e9 : fT (fT (fT vF 0 g52) 2 f2w52) 3 f3w52 = fT (fT (fT (fT (fT (fT vF 0 g41) 2 f2w34) 3 f3w34) 2 f2w52) 3 f3w52) 0 g52 := ((congrArg (fun g9 => fT (fT g9 3 f3w52) 0 g52) ((fT_sw _ _ _ (Nat.ne_of_beq_eq_false rfl)).trans (congrArg (fun g9 => fT g9 3 f3w34) (fT_sm _ _ _ _)))).trans ((congrArg (fun g9 => fT g9 0 g52) (fT_sm _ _ _ _)).trans ((fT_sw _ _ _ (Nat.ne_of_beq_eq_false rfl)).trans (congrArg (fun g9 => fT g9 3 f3w52) ((fT_sw _ _ _ (Nat.ne_of_beq_eq_false rfl)).trans (congrArg (fun g9 => fT g9 2 f2w52) (fT_sm _ _ _ _))))))).symm
    rw [← e9] at hP hD
    clear e9
    have e9 : fT vG 1 gs52 = fT (fT vG 1 gs34) 1 gs52 := (fT_sm _ _ _ _).symm
    rw [← e9] at hP hD
    clear e9
    have hP : va_P (dC, dI) vwCl (WR a k h0 vi vj (fT (fT (fT vF 0 g52) 2 f2w52) 3 f3w52) (fT vG 1 gs52)) H := hP
    have hD : va_D A (WR a k h0 vi vj (fT (fT (fT vF 0 g52) 2 f2w52) 3 f3w52) (fT vG 1 gs52)) := hD
    have f52_0 := hw9
    try dsimp only at f52_0
    refine lv_aload_n hx hb dX12_shorten_55 rfl (lv_at hl 0 rfl) ?_
    refine lv_iload_n hx hb dX12_shorten_56 rfl (lv_at hl 2 rfl) ?_
    refine lv_bipush (v := 7) hx hb dX12_shorten_57 (by decide) ?_
    have hFc := allFree hD hS hA
    refine va_callv (va_runV (As := [.int (nI bn), .int 7]) (rest := []) ⟨hx, hb, hml, hown, hts⟩ (b_X12_copy l dC dI a k h0 vi vj (fT (fT (fT vF 0 g52) 2 f2w52) 3 f3w52) (fT vG 1 gs52) bn 7 (fT (fT (fT (fT (fT m223 7 ((xa).tdiv ((Int.gcd xa xb : Nat) : Int))) 8 ((xa).tmod ((Int.gcd xa xb : Nat) : Int))) an ((xa).tdiv ((Int.gcd xa xb : Nat) : Int))) 7 ((xb).tdiv ((Int.gcd xa xb : Nat) : Int))) 8 ((xb).tmod ((Int.gcd xa xb : Nat) : Int))) f52_0 ((xb).tdiv ((Int.gcd xa xb : Nat) : Int)) (by rw [fT_ne _ _ (by omega), fT_eq]) (by first | assumption | decide | omega | rfl) (by first | assumption | decide | omega | rfl) (by first | assumption | decide | omega | rfl) H.size) (cwV 2 hts gwsRX12_shorten_3 rfl rfl rfl (by decide +kernel) ⟨by decide +kernel, by decide +kernel⟩) ⟨fun a U g mk q => by obtain ⟨q0, q1, qP, qK, qD⟩ := q; exact ⟨q0, q1, qP, va_K.moved (u := U) (U := U.calling g mk a) (Vm.Alike.refl U.vm) qK, qD⟩, va_recv hK hP (ci := 12) (q0 := 0) rfl rfl, fun U hU9 hW => ⟨rfl, by rw [hU9], by rw [hU9]; exact hP, va_K.moved hW.alike hK, hD.weaken (fun _ _ _ _ => trivial)⟩⟩ rfl rfl hl.1 rfl (lv_room (Nat.le_of_ble_eq_true rfl)) dX12_shorten_59 ⟨by decide +kernel, by decide +kernel⟩) hS (fun q _ h => hFc q h) hFc (fun u t9_ H1 locs ht hvm hw9 hB9 hz1 hk1 hS => ?_)
    obtain ⟨g59, hwit59⟩ : ∃ w9, w9 = u := ⟨u, rfl⟩
    subst hwit59
    obtain ⟨hP1, hD1⟩ := hB9
    rw [ht] at hP1
    have hP := hP1
    have hD := hD1.weaken (fun _ q _ h => hFc q.1 h)
    generalize H1 = H at hP hS ⊢
    have hP : va_P (dC, dI) vwCl (WR a k h0 vi vj (fT (fT (fT (fT vF 0 g52) 2 f2w52) 3 f3w52) 0 g59) (fT vG 1 gs52)) H := hP
    have hD : va_D A (WR a k h0 vi vj (fT (fT (fT (fT vF 0 g52) 2 f2w52) 3 f3w52) 0 g59) (fT vG 1 gs52)) := hD
    have e9 : fT (fT (fT vF 0 g59) 2 f2w52) 3 f3w52 = fT (fT (fT (fT vF 0 g52) 2 f2w52) 3 f3w52) 0 g59 := ((fT_sw _ _ _ (Nat.ne_of_beq_eq_false rfl)).trans (congrArg (fun g9 => fT g9 3 f3w52) ((fT_sw _ _ _ (Nat.ne_of_beq_eq_false rfl)).trans (congrArg (fun g9 => fT g9 2 f2w52) (fT_sm _ _ _ _))))).symm
    rw [← e9] at hP hD
    clear e9
    have hP : va_P (dC, dI) vwCl (WR a k h0 vi vj (fT (fT (fT vF 0 g59) 2 f2w52) 3 f3w52) (fT vG 1 gs52)) H := hP
    have hD : va_D A (WR a k h0 vi vj (fT (fT (fT vF 0 g59) 2 f2w52) 3 f3w52) (fT vG 1 gs52)) := hD
    have f59_0 := hw9
    try dsimp only at f59_0
    refine W.widen (k := 0) (n := 0) (by decide +kernel) (by decide +kernel) ?_
    exact W.vret hx hb hr (fun t9_ ht hW => ⟨⟨(g59, f2w52, f3w52, gs52, (fT (fT (fT (fT (fT (fT m223 7 ((xa).tdiv ((Int.gcd xa xb : Nat) : Int))) 8 ((xa).tmod ((Int.gcd xa xb : Nat) : Int))) an ((xa).tdiv ((Int.gcd xa xb : Nat) : Int))) 7 ((xb).tdiv ((Int.gcd xa xb : Nat) : Int))) 8 ((xb).tmod ((Int.gcd xa xb : Nat) : Int))) bn ((xb).tdiv ((Int.gcd xa xb : Nat) : Int)))), rfl, by (try dsimp only); exact ⟨f59_0, by (have e9 : (fT (fT (fT (fT (fT (fT m223 7 ((xa).tdiv ((Int.gcd xa xb : Nat) : Int))) 8 ((xa).tmod ((Int.gcd xa xb : Nat) : Int))) an ((xa).tdiv ((Int.gcd xa xb : Nat) : Int))) 7 ((xb).tdiv ((Int.gcd xa xb : Nat) : Int))) 8 ((xb).tmod ((Int.gcd xa xb : Nat) : Int))) bn ((xb).tdiv ((Int.gcd xa xb : Nat) : Int))) an = ((xa).tdiv ((Int.gcd xa xb : Nat) : Int)) := (by rw [fT_ne _ _ (by omega), fT_ne _ _ (by omega), fT_ne _ _ (by omega), fT_eq])); rw [e9]; first | exact sh_le _ _ | exact Nat.le_trans (sh_le _ _) (by rw [Int.natAbs_neg]; exact Nat.le_refl _), by (have e9 : (fT (fT (fT (fT (fT (fT m223 7 ((xa).tdiv ((Int.gcd xa xb : Nat) : Int))) 8 ((xa).tmod ((Int.gcd xa xb : Nat) : Int))) an ((xa).tdiv ((Int.gcd xa xb : Nat) : Int))) 7 ((xb).tdiv ((Int.gcd xa xb : Nat) : Int))) 8 ((xb).tmod ((Int.gcd xa xb : Nat) : Int))) bn ((xb).tdiv ((Int.gcd xa xb : Nat) : Int))) bn = ((xb).tdiv ((Int.gcd xa xb : Nat) : Int)) := (by rw [fT_eq])); rw [e9]; first | exact sh_le _ _ | exact Nat.le_trans (sh_le _ _) (by rw [Int.natAbs_neg]; exact Nat.le_refl _), fun q h1 h2 h3 => by (rw [fT_ne _ _ (by omega), fT_ne _ _ (by omega), fT_ne _ _ (by omega), fT_ne _ _ (by omega), fT_ne _ _ (by omega), fT_ne _ _ (by omega), f23_2 _ (by omega) (by omega)]), by (have e9 : (fT (fT (fT (fT (fT (fT m223 7 ((xa).tdiv ((Int.gcd xa xb : Nat) : Int))) 8 ((xa).tmod ((Int.gcd xa xb : Nat) : Int))) an ((xa).tdiv ((Int.gcd xa xb : Nat) : Int))) 7 ((xb).tdiv ((Int.gcd xa xb : Nat) : Int))) 8 ((xb).tmod ((Int.gcd xa xb : Nat) : Int))) bn ((xb).tdiv ((Int.gcd xa xb : Nat) : Int))) bn = ((xb).tdiv ((Int.gcd xa xb : Nat) : Int)) := (by rw [fT_eq])); rw [e9]; exact tdiv_pos (by omega) (gcd_pos (by omega)) (gcd_le (by omega))⟩, by rw [ht]; exact hP, hD⟩, hS.F ht⟩) hS.2.2 dX12_shorten_62
  · have t_5 : ¬ (r2).toInt ≥ 0 := toI_nge c_5 rfl (by decide)
    refine lv_aload_n hx hb dX12_shorten_8 rfl (lv_at hl 0 rfl) ?_
    refine lv_iload_n hx hb dX12_shorten_9 rfl (lv_at hl 1 rfl) ?_
    have hFc := allFree hD hS hA
    refine va_callv (va_runV (As := [.int (nI an)]) (rest := []) ⟨hx, hb, hml, hown, hts⟩ (b_X12_turn l dC dI a k h0 vi vj vF vG an mg hBg xa (by rw [v_xa]) (by first | assumption | decide | omega | rfl) H.size) (cwV 1 hts gwsRX12_shorten_4 rfl rfl rfl (by decide +kernel) ⟨by decide +kernel, by decide +kernel⟩) ⟨fun a U g mk q => by obtain ⟨q0, q1, qP, qK, qD⟩ := q; exact ⟨q0, q1, qP, va_K.moved (u := U) (U := U.calling g mk a) (Vm.Alike.refl U.vm) qK, qD⟩, va_recv hK hP (ci := 12) (q0 := 0) rfl rfl, fun U hU9 hW => ⟨rfl, by rw [hU9], by rw [hU9]; exact hP, va_K.moved hW.alike hK, hD.weaken (fun _ _ _ _ => trivial)⟩⟩ rfl rfl hl.1 rfl (lv_room (Nat.le_of_ble_eq_true rfl)) dX12_shorten_10 ⟨by decide +kernel, by decide +kernel⟩) hS (fun q _ h => hFc q h) hFc (fun u t9_ H1 locs ht hvm hw9 hB9 hz1 hk1 hS => ?_)
    obtain ⟨hP1, hD1⟩ := hB9
    rw [ht] at hP1
    have hP := hP1
    have hD := hD1.weaken (fun _ q _ h => hFc q.1 h)
    generalize H1 = H at hP hS ⊢
    have hP : va_P (dC, dI) vwCl (WR a k h0 vi vj (fT vF 0 (upd (vF 0) (nI (24 * an)).toNatClampNeg (-((vF 0) (24 * an))))) vG) H := hP
    have hD : va_D A (WR a k h0 vi vj (fT vF 0 (upd (vF 0) (nI (24 * an)).toNatClampNeg (-((vF 0) (24 * an))))) vG) := hD
    have f10_0 := hw9
    try dsimp only at f10_0
    have f10_0 : Bg (upd (vF 0) (nI (24 * an)).toNatClampNeg (-((vF 0) (24 * an)))) (fT mg an (-xa)) := f10_0
    refine lv_aload_n hx hb dX12_shorten_13 rfl (lv_at hl 0 rfl) ?_
    refine lv_iload_n hx hb dX12_shorten_14 rfl (lv_at hl 2 rfl) ?_
    have hFc := allFree hD hS hA
    refine va_callv (va_runV (As := [.int (nI bn)]) (rest := []) ⟨hx, hb, hml, hown, hts⟩ (b_X12_turn l dC dI a k h0 vi vj (fT vF 0 (upd (vF 0) (nI (24 * an)).toNatClampNeg (-((vF 0) (24 * an))))) vG bn (fT mg an (-xa)) f10_0 xb (by rw [fT_ne _ _ (by omega), v_xb]) (by first | assumption | decide | omega | rfl) H.size) (cwV 1 hts gwsRX12_shorten_4 rfl rfl rfl (by decide +kernel) ⟨by decide +kernel, by decide +kernel⟩) ⟨fun a U g mk q => by obtain ⟨q0, q1, qP, qK, qD⟩ := q; exact ⟨q0, q1, qP, va_K.moved (u := U) (U := U.calling g mk a) (Vm.Alike.refl U.vm) qK, qD⟩, va_recv hK hP (ci := 12) (q0 := 0) rfl rfl, fun U hU9 hW => ⟨rfl, by rw [hU9], by rw [hU9]; exact hP, va_K.moved hW.alike hK, hD.weaken (fun _ _ _ _ => trivial)⟩⟩ rfl rfl hl.1 rfl (lv_room (Nat.le_of_ble_eq_true rfl)) dX12_shorten_15 ⟨by decide +kernel, by decide +kernel⟩) hS (fun q _ h => hFc q h) hFc (fun u t9_ H1 locs ht hvm hw9 hB9 hz1 hk1 hS => ?_)
    obtain ⟨hP1, hD1⟩ := hB9
    rw [ht] at hP1
    have hP := hP1
    have hD := hD1.weaken (fun _ q _ h => hFc q.1 h)
    generalize H1 = H at hP hS ⊢
    have hP : va_P (dC, dI) vwCl (WR a k h0 vi vj (fT (fT vF 0 (upd (vF 0) (nI (24 * an)).toNatClampNeg (-((vF 0) (24 * an))))) 0 (upd (upd (vF 0) (nI (24 * an)).toNatClampNeg (-((vF 0) (24 * an)))) (nI (24 * bn)).toNatClampNeg (-((upd (vF 0) (nI (24 * an)).toNatClampNeg (-((vF 0) (24 * an)))) (24 * bn))))) vG) H := hP
    have hD : va_D A (WR a k h0 vi vj (fT (fT vF 0 (upd (vF 0) (nI (24 * an)).toNatClampNeg (-((vF 0) (24 * an))))) 0 (upd (upd (vF 0) (nI (24 * an)).toNatClampNeg (-((vF 0) (24 * an)))) (nI (24 * bn)).toNatClampNeg (-((upd (vF 0) (nI (24 * an)).toNatClampNeg (-((vF 0) (24 * an)))) (24 * bn))))) vG) := hD
    have e9 : fT vF 0 (upd (upd (vF 0) (nI (24 * an)).toNatClampNeg (-((vF 0) (24 * an)))) (nI (24 * bn)).toNatClampNeg (-((upd (vF 0) (nI (24 * an)).toNatClampNeg (-((vF 0) (24 * an)))) (24 * bn)))) = fT (fT vF 0 (upd (vF 0) (nI (24 * an)).toNatClampNeg (-((vF 0) (24 * an))))) 0 (upd (upd (vF 0) (nI (24 * an)).toNatClampNeg (-((vF 0) (24 * an)))) (nI (24 * bn)).toNatClampNeg (-((upd (vF 0) (nI (24 * an)).toNatClampNeg (-((vF 0) (24 * an)))) (24 * bn)))) := (fT_sm _ _ _ _).symm
    rw [← e9] at hP hD
    clear e9
    have hP : va_P (dC, dI) vwCl (WR a k h0 vi vj (fT vF 0 (upd (upd (vF 0) (nI (24 * an)).toNatClampNeg (-((vF 0) (24 * an)))) (nI (24 * bn)).toNatClampNeg (-((upd (vF 0) (nI (24 * an)).toNatClampNeg (-((vF 0) (24 * an)))) (24 * bn))))) vG) H := hP
    have hD : va_D A (WR a k h0 vi vj (fT vF 0 (upd (upd (vF 0) (nI (24 * an)).toNatClampNeg (-((vF 0) (24 * an)))) (nI (24 * bn)).toNatClampNeg (-((upd (vF 0) (nI (24 * an)).toNatClampNeg (-((vF 0) (24 * an)))) (24 * bn))))) vG) := hD
    have f15_0 := hw9
    try dsimp only at f15_0
    have f15_0 : Bg (upd (upd (vF 0) (nI (24 * an)).toNatClampNeg (-((vF 0) (24 * an)))) (nI (24 * bn)).toNatClampNeg (-((upd (vF 0) (nI (24 * an)).toNatClampNeg (-((vF 0) (24 * an)))) (24 * bn)))) (fT (fT mg an (-xa)) bn (-xb)) := f15_0
    refine lv_aload_n hx hb dX12_shorten_18 rfl (lv_at hl 0 rfl) ?_
    refine lv_bipush (v := 9) hx hb dX12_shorten_19 (by decide) ?_
    refine lv_iload_n hx hb dX12_shorten_21 rfl (lv_at hl 1 rfl) ?_
    refine lv_iload_n hx hb dX12_shorten_22 rfl (lv_at hl 2 rfl) ?_
    have hFc := allFree hD hS hA
    refine va_callv (va_runV (As := [.int 9, .int (nI an), .int (nI bn)]) (rest := []) ⟨hx, hb, hml, hown, hts⟩ (r_X12_common l dC dI a k h0 vi vj (fT vF 0 (upd (upd (vF 0) (nI (24 * an)).toNatClampNeg (-((vF 0) (24 * an)))) (nI (24 * bn)).toNatClampNeg (-((upd (vF 0) (nI (24 * an)).toNatClampNeg (-((vF 0) (24 * an)))) (24 * bn))))) vG 9 an bn (fT (fT mg an (-xa)) bn (-xb)) f15_0 (-xa) (-xb) (by rw [fT_ne _ _ (by omega), fT_eq]) (by rw [fT_eq]) (by first | assumption | decide | omega | rfl) (by first | assumption | decide | omega | rfl) (by first | assumption | decide | omega | rfl) (by first | assumption | decide | omega | rfl) (by first | assumption | decide | omega | rfl) (by first | assumption | decide | omega | rfl) H.size) (cwV 3 hts gwsRX12_shorten_1 rfl rfl rfl (by decide +kernel) ⟨by decide +kernel, by decide +kernel⟩) ⟨fun a U g mk q => by obtain ⟨q0, q1, qP, qK, qD⟩ := q; exact ⟨q0, q1, qP, va_K.moved (u := U) (U := U.calling g mk a) (Vm.Alike.refl U.vm) qK, qD⟩, va_recv hK hP (ci := 12) (q0 := 0) rfl rfl, fun U hU9 hW => ⟨rfl, by rw [hU9], by rw [hU9]; exact hP, va_K.moved hW.alike hK, hD.weaken (fun _ _ _ _ => trivial)⟩⟩ rfl rfl hl.1 rfl (lv_room (Nat.le_of_ble_eq_true rfl)) dX12_shorten_23 ⟨by decide +kernel, by decide +kernel⟩) hS (fun q _ h => hFc q h) hFc (fun u t9_ H1 locs ht hvm hw9 hB9 hz1 hk1 hS => ?_)
    obtain ⟨g23_1, f2w23_1, f3w23_1, gs23_1, m223_1⟩ := u
    try dsimp only at hw9 hB9
    obtain ⟨hP1, hD1⟩ := hB9
    rw [ht] at hP1
    have hP := hP1
    have hD := hD1.weaken (fun _ q _ h => hFc q.1 h)
    generalize H1 = H at hP hS ⊢
    have hP : va_P (dC, dI) vwCl (WR a k h0 vi vj (fT (fT (fT (fT vF 0 (upd (upd (vF 0) (nI (24 * an)).toNatClampNeg (-((vF 0) (24 * an)))) (nI (24 * bn)).toNatClampNeg (-((upd (vF 0) (nI (24 * an)).toNatClampNeg (-((vF 0) (24 * an)))) (24 * bn))))) 0 g23_1) 2 f2w23_1) 3 f3w23_1) (fT vG 1 gs23_1)) H := hP
    have hD : va_D A (WR a k h0 vi vj (fT (fT (fT (fT vF 0 (upd (upd (vF 0) (nI (24 * an)).toNatClampNeg (-((vF 0) (24 * an)))) (nI (24 * bn)).toNatClampNeg (-((upd (vF 0) (nI (24 * an)).toNatClampNeg (-((vF 0) (24 * an)))) (24 * bn))))) 0 g23_1) 2 f2w23_1) 3 f3w23_1) (fT vG 1 gs23_1)) := hD
    have e9 : fT (fT (fT vF 0 g23_1) 2 f2w23_1) 3 f3w23_1 = fT (fT (fT (fT vF 0 (upd (upd (vF 0) (nI (24 * an)).toNatClampNeg (-((vF 0) (24 * an)))) (nI (24 * bn)).toNatClampNeg (-((upd (vF 0) (nI (24 * an)).toNatClampNeg (-((vF 0) (24 * an)))) (24 * bn))))) 0 g23_1) 2 f2w23_1) 3 f3w23_1 := (congrArg (fun g9 => fT (fT g9 2 f2w23_1) 3 f3w23_1) (fT_sm _ _ _ _)).symm
    rw [← e9] at hP hD
    clear e9
    have hP : va_P (dC, dI) vwCl (WR a k h0 vi vj (fT (fT (fT vF 0 g23_1) 2 f2w23_1) 3 f3w23_1) (fT vG 1 gs23_1)) H := hP
    have hD : va_D A (WR a k h0 vi vj (fT (fT (fT vF 0 g23_1) 2 f2w23_1) 3 f3w23_1) (fT vG 1 gs23_1)) := hD
    obtain ⟨f23_1_0, f23_1_1, f23_1_2⟩ := hw9
    refine lv_aload_n hx hb dX12_shorten_26 rfl (lv_at hl 0 rfl) ?_
    refine lv_bipush (v := 7) hx hb dX12_shorten_27 (by decide) ?_
    refine lv_bipush (v := 8) hx hb dX12_shorten_29 (by decide) ?_
    refine lv_iload_n hx hb dX12_shorten_31 rfl (lv_at hl 1 rfl) ?_
    refine lv_bipush (v := 9) hx hb dX12_shorten_32 (by decide) ?_
    have hFc := allFree hD hS hA
    refine va_callv (va_runV (As := [.int 7, .int 8, .int (nI an), .int 9]) (rest := []) ⟨hx, hb, hml, hown, hts⟩ (b_X12_divide l dC dI a k h0 vi vj (fT (fT (fT vF 0 g23_1) 2 f2w23_1) 3 f3w23_1) (fT vG 1 gs23_1) 7 8 an 9 m223_1 f23_1_0 (-xa) ((Int.gcd (-xa) (-xb) : Nat) : Int) (by rw [f23_1_2 _ (by omega) (by omega), fT_ne _ _ (by omega), fT_eq]) (by rw [f23_1_1]) (by first | assumption | decide | omega | rfl) (by first | assumption | decide | omega | rfl) (by first | assumption | decide | omega | rfl) (by first | assumption | decide | omega | rfl) (by first | assumption | decide | omega | rfl) (by first | assumption | decide | omega | rfl) (gcd_ne (Or.inr (by omega))) H.size) (cwV 4 hts gwsRX12_shorten_2 rfl rfl rfl (by decide +kernel) ⟨by decide +kernel, by decide +kernel⟩) ⟨fun a U g mk q => by obtain ⟨q0, q1, qP, qK, qD⟩ := q; exact ⟨q0, q1, qP, va_K.moved (u := U) (U := U.calling g mk a) (Vm.Alike.refl U.vm) qK, qD⟩, va_recv hK hP (ci := 12) (q0 := 0) rfl rfl, fun U hU9 hW => ⟨rfl, by rw [hU9], by rw [hU9]; exact hP, va_K.moved hW.alike hK, hD.weaken (fun _ _ _ _ => trivial)⟩⟩ rfl rfl hl.1 rfl (lv_room (Nat.le_of_ble_eq_true rfl)) dX12_shorten_34 ⟨by decide +kernel, by decide +kernel⟩) hS (fun q _ h => hFc q h) hFc (fun u t9_ H1 locs ht hvm hw9 hB9 hz1 hk1 hS => ?_)
    obtain ⟨g34_1, f2w34_1, f3w34_1, gs34_1⟩ := u
    try dsimp only at hw9 hB9
    obtain ⟨hP1, hD1⟩ := hB9
    rw [ht] at hP1
    have hP := hP1
    have hD := hD1.weaken (fun _ q _ h => hFc q.1 h)
    generalize H1 = H at hP hS ⊢
    have hP : va_P (dC, dI) vwCl (WR a k h0 vi vj (fT (fT (fT (fT (fT (fT vF 0 g23_1) 2 f2w23_1) 3 f3w23_1) 2 f2w34_1) 3 f3w34_1) 0 g34_1) (fT (fT vG 1 gs23_1) 1 gs34_1)) H := hP
    have hD : va_D A (WR a k h0 vi vj (fT (fT (fT (fT (fT (fT vF 0 g23_1) 2 f2w23_1) 3 f3w23_1) 2 f2w34_1) 3 f3w34_1) 0 g34_1) (fT (fT vG 1 gs23_1) 1 gs34_1)) := hD
    have e9 : fT (fT (fT vF 0 g34_1) 2 f2w34_1) 3 f3w34_1 = fT (fT (fT (fT (fT (fT vF 0 g23_1) 2 f2w23_1) 3 f3w23_1) 2 f2w34_1) 3 f3w34_1) 0 g34_1 := ((congrArg (fun g9 => fT (fT g9 3 f3w34_1) 0 g34_1) ((fT_sw _ _ _ (Nat.ne_of_beq_eq_false rfl)).trans (congrArg (fun g9 => fT g9 3 f3w23_1) (fT_sm _ _ _ _)))).trans ((congrArg (fun g9 => fT g9 0 g34_1) (fT_sm _ _ _ _)).trans ((fT_sw _ _ _ (Nat.ne_of_beq_eq_false rfl)).trans (congrArg (fun g9 => fT g9 3 f3w34_1) ((fT_sw _ _ _ (Nat.ne_of_beq_eq_false rfl)).trans (congrArg (fun g9 => fT g9 2 f2w34_1) (fT_sm _ _ _ _))))))).symm
    rw [← e9] at hP hD
    clear e9
    have e9 : fT vG 1 gs34_1 = fT (fT vG 1 gs23_1) 1 gs34_1 := (fT_sm _ _ _ _).symm
    rw [← e9] at hP hD
    clear e9
    have hP : va_P (dC, dI) vwCl (WR a k h0 vi vj (fT (fT (fT vF 0 g34_1) 2 f2w34_1) 3 f3w34_1) (fT vG 1 gs34_1)) H := hP
    have hD : va_D A (WR a k h0 vi vj (fT (fT (fT vF 0 g34_1) 2 f2w34_1) 3 f3w34_1) (fT vG 1 gs34_1)) := hD
    have f34_1_0 := hw9
    try dsimp only at f34_1_0
    refine lv_aload_n hx hb dX12_shorten_37 rfl (lv_at hl 0 rfl) ?_
    refine lv_iload_n hx hb dX12_shorten_38 rfl (lv_at hl 1 rfl) ?_
    refine lv_bipush (v := 7) hx hb dX12_shorten_39 (by decide) ?_
    have hFc := allFree hD hS hA
    refine va_callv (va_runV (As := [.int (nI an), .int 7]) (rest := []) ⟨hx, hb, hml, hown, hts⟩ (b_X12_copy l dC dI a k h0 vi vj (fT (fT (fT vF 0 g34_1) 2 f2w34_1) 3 f3w34_1) (fT vG 1 gs34_1) an 7 (fT (fT m223_1 7 (((-xa)).tdiv ((Int.gcd (-xa) (-xb) : Nat) : Int))) 8 (((-xa)).tmod ((Int.gcd (-xa) (-xb) : Nat) : Int))) f34_1_0 (((-xa)).tdiv ((Int.gcd (-xa) (-xb) : Nat) : Int)) (by rw [fT_ne _ _ (by omega), fT_eq]) (by first | assumption | decide | omega | rfl) (by first | assumption | decide | omega | rfl) (by first | assumption | decide | omega | rfl) H.size) (cwV 2 hts gwsRX12_shorten_3 rfl rfl rfl (by decide +kernel) ⟨by decide +kernel, by decide +kernel⟩) ⟨fun a U g mk q => by obtain ⟨q0, q1, qP, qK, qD⟩ := q; exact ⟨q0, q1, qP, va_K.moved (u := U) (U := U.calling g mk a) (Vm.Alike.refl U.vm) qK, qD⟩, va_recv hK hP (ci := 12) (q0 := 0) rfl rfl, fun U hU9 hW => ⟨rfl, by rw [hU9], by rw [hU9]; exact hP, va_K.moved hW.alike hK, hD.weaken (fun _ _ _ _ => trivial)⟩⟩ rfl rfl hl.1 rfl (lv_room (Nat.le_of_ble_eq_true rfl)) dX12_shorten_41 ⟨by decide +kernel, by decide +kernel⟩) hS (fun q _ h => hFc q h) hFc (fun u t9_ H1 locs ht hvm hw9 hB9 hz1 hk1 hS => ?_)
    obtain ⟨g41_1, hwit41_1⟩ : ∃ w9, w9 = u := ⟨u, rfl⟩
    subst hwit41_1
    obtain ⟨hP1, hD1⟩ := hB9
    rw [ht] at hP1
    have hP := hP1
    have hD := hD1.weaken (fun _ q _ h => hFc q.1 h)
    generalize H1 = H at hP hS ⊢
    have hP : va_P (dC, dI) vwCl (WR a k h0 vi vj (fT (fT (fT (fT vF 0 g34_1) 2 f2w34_1) 3 f3w34_1) 0 g41_1) (fT vG 1 gs34_1)) H := hP
    have hD : va_D A (WR a k h0 vi vj (fT (fT (fT (fT vF 0 g34_1) 2 f2w34_1) 3 f3w34_1) 0 g41_1) (fT vG 1 gs34_1)) := hD
    have e9 : fT (fT (fT vF 0 g41_1) 2 f2w34_1) 3 f3w34_1 = fT (fT (fT (fT vF 0 g34_1) 2 f2w34_1) 3 f3w34_1) 0 g41_1 := ((fT_sw _ _ _ (Nat.ne_of_beq_eq_false rfl)).trans (congrArg (fun g9 => fT g9 3 f3w34_1) ((fT_sw _ _ _ (Nat.ne_of_beq_eq_false rfl)).trans (congrArg (fun g9 => fT g9 2 f2w34_1) (fT_sm _ _ _ _))))).symm
    rw [← e9] at hP hD
    clear e9
    have hP : va_P (dC, dI) vwCl (WR a k h0 vi vj (fT (fT (fT vF 0 g41_1) 2 f2w34_1) 3 f3w34_1) (fT vG 1 gs34_1)) H := hP
    have hD : va_D A (WR a k h0 vi vj (fT (fT (fT vF 0 g41_1) 2 f2w34_1) 3 f3w34_1) (fT vG 1 gs34_1)) := hD
    have f41_1_0 := hw9
    try dsimp only at f41_1_0
    refine lv_aload_n hx hb dX12_shorten_44 rfl (lv_at hl 0 rfl) ?_
    refine lv_bipush (v := 7) hx hb dX12_shorten_45 (by decide) ?_
    refine lv_bipush (v := 8) hx hb dX12_shorten_47 (by decide) ?_
    refine lv_iload_n hx hb dX12_shorten_49 rfl (lv_at hl 2 rfl) ?_
    refine lv_bipush (v := 9) hx hb dX12_shorten_50 (by decide) ?_
    have hFc := allFree hD hS hA
    refine va_callv (va_runV (As := [.int 7, .int 8, .int (nI bn), .int 9]) (rest := []) ⟨hx, hb, hml, hown, hts⟩ (b_X12_divide l dC dI a k h0 vi vj (fT (fT (fT vF 0 g41_1) 2 f2w34_1) 3 f3w34_1) (fT vG 1 gs34_1) 7 8 bn 9 (fT (fT (fT m223_1 7 (((-xa)).tdiv ((Int.gcd (-xa) (-xb) : Nat) : Int))) 8 (((-xa)).tmod ((Int.gcd (-xa) (-xb) : Nat) : Int))) an (((-xa)).tdiv ((Int.gcd (-xa) (-xb) : Nat) : Int))) f41_1_0 (-xb) ((Int.gcd (-xa) (-xb) : Nat) : Int) (by rw [fT_ne _ _ (by omega), fT_ne _ _ (by omega), fT_ne _ _ (by omega), f23_1_2 _ (by omega) (by omega), fT_eq]) (by rw [fT_ne _ _ (by omega), fT_ne _ _ (by omega), fT_ne _ _ (by omega), f23_1_1]) (by first | assumption | decide | omega | rfl) (by first | assumption | decide | omega | rfl) (by first | assumption | decide | omega | rfl) (by first | assumption | decide | omega | rfl) (by first | assumption | decide | omega | rfl) (by first | assumption | decide | omega | rfl) (gcd_ne (Or.inr (by omega))) H.size) (cwV 4 hts gwsRX12_shorten_2 rfl rfl rfl (by decide +kernel) ⟨by decide +kernel, by decide +kernel⟩) ⟨fun a U g mk q => by obtain ⟨q0, q1, qP, qK, qD⟩ := q; exact ⟨q0, q1, qP, va_K.moved (u := U) (U := U.calling g mk a) (Vm.Alike.refl U.vm) qK, qD⟩, va_recv hK hP (ci := 12) (q0 := 0) rfl rfl, fun U hU9 hW => ⟨rfl, by rw [hU9], by rw [hU9]; exact hP, va_K.moved hW.alike hK, hD.weaken (fun _ _ _ _ => trivial)⟩⟩ rfl rfl hl.1 rfl (lv_room (Nat.le_of_ble_eq_true rfl)) dX12_shorten_52 ⟨by decide +kernel, by decide +kernel⟩) hS (fun q _ h => hFc q h) hFc (fun u t9_ H1 locs ht hvm hw9 hB9 hz1 hk1 hS => ?_)
    obtain ⟨g52_1, f2w52_1, f3w52_1, gs52_1⟩ := u
    try dsimp only at hw9 hB9
    obtain ⟨hP1, hD1⟩ := hB9
    rw [ht] at hP1
    have hP := hP1
    have hD := hD1.weaken (fun _ q _ h => hFc q.1 h)
    generalize H1 = H at hP hS ⊢
    have hP : va_P (dC, dI) vwCl (WR a k h0 vi vj (fT (fT (fT (fT (fT (fT vF 0 g41_1) 2 f2w34_1) 3 f3w34_1) 2 f2w52_1) 3 f3w52_1) 0 g52_1) (fT (fT vG 1 gs34_1) 1 gs52_1)) H := hP
    have hD : va_D A (WR a k h0 vi vj (fT (fT (fT (fT (fT (fT vF 0 g41_1) 2 f2w34_1) 3 f3w34_1) 2 f2w52_1) 3 f3w52_1) 0 g52_1) (fT (fT vG 1 gs34_1) 1 gs52_1)) := hD
    have e9 : fT (fT (fT vF 0 g52_1) 2 f2w52_1) 3 f3w52_1 = fT (fT (fT (fT (fT (fT vF 0 g41_1) 2 f2w34_1) 3 f3w34_1) 2 f2w52_1) 3 f3w52_1) 0 g52_1 := ((congrArg (fun g9 => fT (fT g9 3 f3w52_1) 0 g52_1) ((fT_sw _ _ _ (Nat.ne_of_beq_eq_false rfl)).trans (congrArg (fun g9 => fT g9 3 f3w34_1) (fT_sm _ _ _ _)))).trans ((congrArg (fun g9 => fT g9 0 g52_1) (fT_sm _ _ _ _)).trans ((fT_sw _ _ _ (Nat.ne_of_beq_eq_false rfl)).trans (congrArg (fun g9 => fT g9 3 f3w52_1) ((fT_sw _ _ _ (Nat.ne_of_beq_eq_false rfl)).trans (congrArg (fun g9 => fT g9 2 f2w52_1) (fT_sm _ _ _ _))))))).symm
    rw [← e9] at hP hD
    clear e9
    have e9 : fT vG 1 gs52_1 = fT (fT vG 1 gs34_1) 1 gs52_1 := (fT_sm _ _ _ _).symm
    rw [← e9] at hP hD
    clear e9
    have hP : va_P (dC, dI) vwCl (WR a k h0 vi vj (fT (fT (fT vF 0 g52_1) 2 f2w52_1) 3 f3w52_1) (fT vG 1 gs52_1)) H := hP
    have hD : va_D A (WR a k h0 vi vj (fT (fT (fT vF 0 g52_1) 2 f2w52_1) 3 f3w52_1) (fT vG 1 gs52_1)) := hD
    have f52_1_0 := hw9
    try dsimp only at f52_1_0
    refine lv_aload_n hx hb dX12_shorten_55 rfl (lv_at hl 0 rfl) ?_
    refine lv_iload_n hx hb dX12_shorten_56 rfl (lv_at hl 2 rfl) ?_
    refine lv_bipush (v := 7) hx hb dX12_shorten_57 (by decide) ?_
    have hFc := allFree hD hS hA
    refine va_callv (va_runV (As := [.int (nI bn), .int 7]) (rest := []) ⟨hx, hb, hml, hown, hts⟩ (b_X12_copy l dC dI a k h0 vi vj (fT (fT (fT vF 0 g52_1) 2 f2w52_1) 3 f3w52_1) (fT vG 1 gs52_1) bn 7 (fT (fT (fT (fT (fT m223_1 7 (((-xa)).tdiv ((Int.gcd (-xa) (-xb) : Nat) : Int))) 8 (((-xa)).tmod ((Int.gcd (-xa) (-xb) : Nat) : Int))) an (((-xa)).tdiv ((Int.gcd (-xa) (-xb) : Nat) : Int))) 7 (((-xb)).tdiv ((Int.gcd (-xa) (-xb) : Nat) : Int))) 8 (((-xb)).tmod ((Int.gcd (-xa) (-xb) : Nat) : Int))) f52_1_0 (((-xb)).tdiv ((Int.gcd (-xa) (-xb) : Nat) : Int)) (by rw [fT_ne _ _ (by omega), fT_eq]) (by first | assumption | decide | omega | rfl) (by first | assumption | decide | omega | rfl) (by first | assumption | decide | omega | rfl) H.size) (cwV 2 hts gwsRX12_shorten_3 rfl rfl rfl (by decide +kernel) ⟨by decide +kernel, by decide +kernel⟩) ⟨fun a U g mk q => by obtain ⟨q0, q1, qP, qK, qD⟩ := q; exact ⟨q0, q1, qP, va_K.moved (u := U) (U := U.calling g mk a) (Vm.Alike.refl U.vm) qK, qD⟩, va_recv hK hP (ci := 12) (q0 := 0) rfl rfl, fun U hU9 hW => ⟨rfl, by rw [hU9], by rw [hU9]; exact hP, va_K.moved hW.alike hK, hD.weaken (fun _ _ _ _ => trivial)⟩⟩ rfl rfl hl.1 rfl (lv_room (Nat.le_of_ble_eq_true rfl)) dX12_shorten_59 ⟨by decide +kernel, by decide +kernel⟩) hS (fun q _ h => hFc q h) hFc (fun u t9_ H1 locs ht hvm hw9 hB9 hz1 hk1 hS => ?_)
    obtain ⟨g59_1, hwit59_1⟩ : ∃ w9, w9 = u := ⟨u, rfl⟩
    subst hwit59_1
    obtain ⟨hP1, hD1⟩ := hB9
    rw [ht] at hP1
    have hP := hP1
    have hD := hD1.weaken (fun _ q _ h => hFc q.1 h)
    generalize H1 = H at hP hS ⊢
    have hP : va_P (dC, dI) vwCl (WR a k h0 vi vj (fT (fT (fT (fT vF 0 g52_1) 2 f2w52_1) 3 f3w52_1) 0 g59_1) (fT vG 1 gs52_1)) H := hP
    have hD : va_D A (WR a k h0 vi vj (fT (fT (fT (fT vF 0 g52_1) 2 f2w52_1) 3 f3w52_1) 0 g59_1) (fT vG 1 gs52_1)) := hD
    have e9 : fT (fT (fT vF 0 g59_1) 2 f2w52_1) 3 f3w52_1 = fT (fT (fT (fT vF 0 g52_1) 2 f2w52_1) 3 f3w52_1) 0 g59_1 := ((fT_sw _ _ _ (Nat.ne_of_beq_eq_false rfl)).trans (congrArg (fun g9 => fT g9 3 f3w52_1) ((fT_sw _ _ _ (Nat.ne_of_beq_eq_false rfl)).trans (congrArg (fun g9 => fT g9 2 f2w52_1) (fT_sm _ _ _ _))))).symm
    rw [← e9] at hP hD
    clear e9
    have hP : va_P (dC, dI) vwCl (WR a k h0 vi vj (fT (fT (fT vF 0 g59_1) 2 f2w52_1) 3 f3w52_1) (fT vG 1 gs52_1)) H := hP
    have hD : va_D A (WR a k h0 vi vj (fT (fT (fT vF 0 g59_1) 2 f2w52_1) 3 f3w52_1) (fT vG 1 gs52_1)) := hD
    have f59_1_0 := hw9
    try dsimp only at f59_1_0
    refine W.widen (k := 0) (n := 0) (by decide +kernel) (by decide +kernel) ?_
    exact W.vret hx hb hr (fun t9_ ht hW => ⟨⟨(g59_1, f2w52_1, f3w52_1, gs52_1, (fT (fT (fT (fT (fT (fT m223_1 7 (((-xa)).tdiv ((Int.gcd (-xa) (-xb) : Nat) : Int))) 8 (((-xa)).tmod ((Int.gcd (-xa) (-xb) : Nat) : Int))) an (((-xa)).tdiv ((Int.gcd (-xa) (-xb) : Nat) : Int))) 7 (((-xb)).tdiv ((Int.gcd (-xa) (-xb) : Nat) : Int))) 8 (((-xb)).tmod ((Int.gcd (-xa) (-xb) : Nat) : Int))) bn (((-xb)).tdiv ((Int.gcd (-xa) (-xb) : Nat) : Int)))), rfl, by (try dsimp only); exact ⟨f59_1_0, by (have e9 : (fT (fT (fT (fT (fT (fT m223_1 7 (((-xa)).tdiv ((Int.gcd (-xa) (-xb) : Nat) : Int))) 8 (((-xa)).tmod ((Int.gcd (-xa) (-xb) : Nat) : Int))) an (((-xa)).tdiv ((Int.gcd (-xa) (-xb) : Nat) : Int))) 7 (((-xb)).tdiv ((Int.gcd (-xa) (-xb) : Nat) : Int))) 8 (((-xb)).tmod ((Int.gcd (-xa) (-xb) : Nat) : Int))) bn (((-xb)).tdiv ((Int.gcd (-xa) (-xb) : Nat) : Int))) an = (((-xa)).tdiv ((Int.gcd (-xa) (-xb) : Nat) : Int)) := (by rw [fT_ne _ _ (by omega), fT_ne _ _ (by omega), fT_ne _ _ (by omega), fT_eq])); rw [e9]; first | exact sh_le _ _ | exact Nat.le_trans (sh_le _ _) (by rw [Int.natAbs_neg]; exact Nat.le_refl _), by (have e9 : (fT (fT (fT (fT (fT (fT m223_1 7 (((-xa)).tdiv ((Int.gcd (-xa) (-xb) : Nat) : Int))) 8 (((-xa)).tmod ((Int.gcd (-xa) (-xb) : Nat) : Int))) an (((-xa)).tdiv ((Int.gcd (-xa) (-xb) : Nat) : Int))) 7 (((-xb)).tdiv ((Int.gcd (-xa) (-xb) : Nat) : Int))) 8 (((-xb)).tmod ((Int.gcd (-xa) (-xb) : Nat) : Int))) bn (((-xb)).tdiv ((Int.gcd (-xa) (-xb) : Nat) : Int))) bn = (((-xb)).tdiv ((Int.gcd (-xa) (-xb) : Nat) : Int)) := (by rw [fT_eq])); rw [e9]; first | exact sh_le _ _ | exact Nat.le_trans (sh_le _ _) (by rw [Int.natAbs_neg]; exact Nat.le_refl _), fun q h1 h2 h3 => by (rw [fT_ne _ _ (by omega), fT_ne _ _ (by omega), fT_ne _ _ (by omega), fT_ne _ _ (by omega), fT_ne _ _ (by omega), fT_ne _ _ (by omega), f23_1_2 _ (by omega) (by omega), fT_ne _ _ (by omega), fT_ne _ _ (by omega)]), by (have e9 : (fT (fT (fT (fT (fT (fT m223_1 7 (((-xa)).tdiv ((Int.gcd (-xa) (-xb) : Nat) : Int))) 8 (((-xa)).tmod ((Int.gcd (-xa) (-xb) : Nat) : Int))) an (((-xa)).tdiv ((Int.gcd (-xa) (-xb) : Nat) : Int))) 7 (((-xb)).tdiv ((Int.gcd (-xa) (-xb) : Nat) : Int))) 8 (((-xb)).tmod ((Int.gcd (-xa) (-xb) : Nat) : Int))) bn (((-xb)).tdiv ((Int.gcd (-xa) (-xb) : Nat) : Int))) bn = (((-xb)).tdiv ((Int.gcd (-xa) (-xb) : Nat) : Int)) := (by rw [fT_eq])); rw [e9]; exact tdiv_pos (by omega) (gcd_pos (by omega)) (gcd_le (by omega))⟩, by rw [ht]; exact hP, hD⟩, hS.F ht⟩) hS.2.2 dX12_shorten_62
theorem dX12_against_0 : decode cX12_against 0 = .ok (.aload_n 0, 1) := dk_42 (by decide +kernel)
theorem dX12_against_1 : decode cX12_against 1 = .ok (.iconst 3, 1) := dk_6 (by decide +kernel)
theorem dX12_against_2 : decode cX12_against 2 = .ok (.iload_n 1, 1) := dk_27 (by decide +kernel)
theorem dX12_against_3 : decode cX12_against 3 = .ok (.iload 4, 2) := dk_21 (by decide +kernel)
theorem dX12_against_5 : decode cX12_against 5 = .ok (.invokevirtual 390, 3) := dk_182 (by decide +kernel)
theorem dX12_against_8 : decode cX12_against 8 = .ok (.aload_n 0, 1) := dk_42 (by decide +kernel)
theorem dX12_against_9 : decode cX12_against 9 = .ok (.iconst 4, 1) := dk_7 (by decide +kernel)
theorem dX12_against_10 : decode cX12_against 10 = .ok (.iload_n 3, 1) := dk_29 (by decide +kernel)
theorem dX12_against_11 : decode cX12_against 11 = .ok (.iload_n 2, 1) := dk_28 (by decide +kernel)
theorem dX12_against_12 : decode cX12_against 12 = .ok (.invokevirtual 390, 3) := dk_182 (by decide +kernel)
theorem dX12_against_15 : decode cX12_against 15 = .ok (.aload_n 0, 1) := dk_42 (by decide +kernel)
theorem dX12_against_16 : decode cX12_against 16 = .ok (.iconst 3, 1) := dk_6 (by decide +kernel)
theorem dX12_against_17 : decode cX12_against 17 = .ok (.iconst 4, 1) := dk_7 (by decide +kernel)
theorem dX12_against_18 : decode cX12_against 18 = .ok (.invokevirtual 393, 3) := dk_182 (by decide +kernel)
theorem dX12_against_21 : decode cX12_against 21 = .ok (.ireturn, 1) := dk_172 (by decide +kernel)
def wsRX12_against : List Cond := .code yX12_against cX12_against 5 (some .int) :: ([] ++ wsX120 ++ (wsV RX12 390 RX12 yX12_times wsRX12_times) ++ (wsV RX12 393 RX12 yX12_compare wsRX12_compare))
theorem iwsRX12_against_in12 : ∀ w ∈ wsX120, w ∈ wsRX12_against := fun _ h => List.mem_cons_of_mem _ (List.mem_append_left _ (List.mem_append_left _ (List.mem_append_right _ h)))
theorem gwsRX12_against_0 : GoodIn wsRX12_against (wsV RX12 390 RX12 yX12_times wsRX12_times) := goodIn_sub (fun _ h => List.mem_cons_of_mem _ (List.mem_append_left _ (List.mem_append_right _ h))) (gdV (by decide +kernel) gdwsRX12_times)
theorem gwsRX12_against_1 : GoodIn wsRX12_against (wsV RX12 393 RX12 yX12_compare wsRX12_compare) := goodIn_sub (fun _ h => List.mem_cons_of_mem _ (List.mem_append_right _ h)) (gdV (by decide +kernel) gdwsRX12_compare)
theorem gdwsRX12_against : wsRX12_against.all goodWord = true := gdC rfl (gdA (gdA (gdA (by decide +kernel : ([] : List Cond).all goodWord = true) gdwsX120) (gdV (by decide +kernel) gdwsRX12_times)) (gdV (by decide +kernel) gdwsRX12_compare))
set_option maxHeartbeats 4000000 in
set_option maxRecDepth 100000 in
/-- against(n, d, m, e) -/
theorem r_X12_against (l : Launch) (dC : Nat → ClassId) (dI : Nat → Nat → Nat) (a : Nat → Nat) (k : Nat → ClassId) (h0 : Nat) (vi : Nat → Int32) (vj : Nat → Int64) (vF : Nat → Nat → Int32) (vG : Nat → Nat → Int64) (nn : Nat) (dn : Nat) (mn : Nat) (en : Nat) (mg : Nat → Int) (hBg : Bg (vF 0) mg) (xn : Int) (xd : Int) (xm : Int) (xe : Int) (v_xn : mg nn = xn) (v_xd : mg dn = xd) (v_xm : mg mn = xm) (v_xe : mg en = xe) (h1 : nn < 1100) (h2 : dn < 1100) (h3 : mn < 1100) (h4 : en < 1100) (h5 : 4 < mn ∧ 4 < dn) (hb1 : xn.natAbs * xe.natAbs < 2 ^ 588) (hb2 : xm.natAbs * xd.natAbs < 2 ^ 588) (sz : Nat) : Met l yX12_against wsRX12_against ({ frames := 2, cells := 0, slots := 0, locals := 59 }) (va_Pc [.ref h0, .int (nI nn), .int (nI dn), .int (nI mn), .int (nI en)] (fun U => U.heap.size = sz ∧ va_P (dC, dI) vwCl (WR a k h0 vi vj vF vG) U.heap ∧ va_K (dC, dI) vwCl (tX12 k) U ∧ va_D (fun _ => True) (WR a k h0 vi vj vF vG))) (va_Qi (fun (r : Int32) (u : (Nat → Int32) × (Nat → Int64) × (Nat → Int)) => (Bg (u.1) (u.2.2)) ∧ (((r).toInt < 0 ∧ xn * xe < xm * xd) ∨ ((r).toInt = 0 ∧ xn * xe = xm * xd) ∨ (0 < (r).toInt ∧ xm * xd < xn * xe)) ∧ (∀ q, (q < 3 ∨ 4 < q) → (u.2.2) q = mg q)) (fun (u : (Nat → Int32) × (Nat → Int64) × (Nat → Int)) t => va_P (dC, dI) vwCl (WR a k h0 vi vj (fT vF 0 (u.1)) (fT vG 1 (u.2.1))) t.heap ∧ va_D (va_A (WR a k h0 vi vj vF vG) sz) (WR a k h0 vi vj (fT vF 0 (u.1)) (fT vG 1 (u.2.1)))) (va_A (WR a k h0 vi vj vF vG) sz)) 0 0 (va_A (WR a k h0 vi vj vF vG) sz) := by
  refine Met.ofW (cc := cX12_against) (maxL := 5) (ret := (some .int)) (by decide) rfl ?_
  intro p e s m args below meth c s₁ B hml hv
  obtain ⟨rfl, hsz, hP, hK, hD0⟩ := hv
  have hx := B.exec
  have hb := B.bytes
  have hr := B.returns
  have hts := atoms_spec (ws := wsRX12_against) B.pre
  have hown : s.vm.findClass RX12 = some m.cls := findClass_of_methodNamed B.named
  have hlocks := B.notSynchronized
  subst hsz
  have hD := hD0.self (sz := s.heap.size)
  generalize hAe : va_A (WR a k h0 vi vj vF vG) s.heap.size = A at hD ⊢
  have hA : ∀ q : Nat, s.heap.size ≤ q → A q := fun q h => by rw [← hAe]; exact Or.inr h
  have hS : va_S A s.heap s.heap [] := va_S.rf
  have hl := lv_entry ([.ref h0, .int (nI nn), .int (nI dn), .int (nI mn), .int (nI en)]) (n := 5) (Nat.le_of_ble_eq_true rfl)
  rw [lg_entry_eq]
  generalize (lg_sl ([.ref h0, .int (nI nn), .int (nI dn), .int (nI mn), .int (nI en)]) ++ List.replicate (5 - (lg_sl ([.ref h0, .int (nI nn), .int (nI dn), .int (nI mn), .int (nI en)])).length) Slot.unset).toArray = ls at hl ⊢
  have hl : lv_has ls 5 [(0, .ref h0), (1, .int (nI nn)), (2, .int (nI dn)), (3, .int (nI mn)), (4, .int (nI en))] := hl
  refine lv_aload_n hx hb dX12_against_0 rfl (lv_at hl 0 rfl) ?_
  refine lv_iconst (v := 3) hx hb dX12_against_1 (by decide) ?_
  refine lv_iload_n hx hb dX12_against_2 rfl (lv_at hl 1 rfl) ?_
  refine lv_iload hx hb dX12_against_3 (lv_at hl 4 rfl) ?_
  have hFc := allFree hD hS hA
  refine va_callv (va_runV (As := [.int 3, .int (nI nn), .int (nI en)]) (rest := []) ⟨hx, hb, hml, hown, hts⟩ (b_X12_times l dC dI a k h0 vi vj vF vG 3 nn en mg hBg xn xe (by rw [v_xn]) (by rw [v_xe]) (by first | assumption | decide | omega | rfl) (by first | assumption | decide | omega | rfl) (by first | assumption | decide | omega | rfl) (by first | assumption | decide | omega | rfl) s.heap.size) (cwV 3 hts gwsRX12_against_0 rfl rfl rfl (by decide +kernel) ⟨by decide +kernel, by decide +kernel⟩) ⟨fun a U g mk q => by obtain ⟨q0, q1, qP, qK, qD⟩ := q; exact ⟨q0, q1, qP, va_K.moved (u := U) (U := U.calling g mk a) (Vm.Alike.refl U.vm) qK, qD⟩, va_recv hK hP (ci := 12) (q0 := 0) rfl rfl, fun U hU9 hW => ⟨rfl, by rw [hU9], by rw [hU9]; exact hP, va_K.moved hW.alike hK, hD.weaken (fun _ _ _ _ => trivial)⟩⟩ rfl rfl hl.1 rfl (lv_room (Nat.le_of_ble_eq_true rfl)) dX12_against_5 ⟨by decide +kernel, by decide +kernel⟩) hS (fun q _ h => hFc q h) hFc (fun u t9_ H1 locs ht hvm hw9 hB9 hz1 hk1 hS => ?_)
  obtain ⟨g5, gs5⟩ := u
  try dsimp only at hw9 hB9
  obtain ⟨hP1, hD1⟩ := hB9
  rw [ht] at hP1
  have hP := hP1
  have hD := hD1.weaken (fun _ q _ h => hFc q.1 h)
  generalize H1 = H at hP hS ⊢
  have hP : va_P (dC, dI) vwCl (WR a k h0 vi vj (fT vF 0 g5) (fT vG 1 gs5)) H := hP
  have hD : va_D A (WR a k h0 vi vj (fT vF 0 g5) (fT vG 1 gs5)) := hD
  have f5_0 := hw9
  try dsimp only at f5_0
  refine lv_aload_n hx hb dX12_against_8 rfl (lv_at hl 0 rfl) ?_
  refine lv_iconst (v := 4) hx hb dX12_against_9 (by decide) ?_
  refine lv_iload_n hx hb dX12_against_10 rfl (lv_at hl 3 rfl) ?_
  refine lv_iload_n hx hb dX12_against_11 rfl (lv_at hl 2 rfl) ?_
  have hFc := allFree hD hS hA
  refine va_callv (va_runV (As := [.int 4, .int (nI mn), .int (nI dn)]) (rest := []) ⟨hx, hb, hml, hown, hts⟩ (b_X12_times l dC dI a k h0 vi vj (fT vF 0 g5) (fT vG 1 gs5) 4 mn dn (fT mg 3 (xn * xe)) f5_0 xm xd (by rw [fT_ne _ _ (by omega), v_xm]) (by rw [fT_ne _ _ (by omega), v_xd]) (by first | assumption | decide | omega | rfl) (by first | assumption | decide | omega | rfl) (by first | assumption | decide | omega | rfl) (by first | assumption | decide | omega | rfl) H.size) (cwV 3 hts gwsRX12_against_0 rfl rfl rfl (by decide +kernel) ⟨by decide +kernel, by decide +kernel⟩) ⟨fun a U g mk q => by obtain ⟨q0, q1, qP, qK, qD⟩ := q; exact ⟨q0, q1, qP, va_K.moved (u := U) (U := U.calling g mk a) (Vm.Alike.refl U.vm) qK, qD⟩, va_recv hK hP (ci := 12) (q0 := 0) rfl rfl, fun U hU9 hW => ⟨rfl, by rw [hU9], by rw [hU9]; exact hP, va_K.moved hW.alike hK, hD.weaken (fun _ _ _ _ => trivial)⟩⟩ rfl rfl hl.1 rfl (lv_room (Nat.le_of_ble_eq_true rfl)) dX12_against_12 ⟨by decide +kernel, by decide +kernel⟩) hS (fun q _ h => hFc q h) hFc (fun u t9_ H1 locs ht hvm hw9 hB9 hz1 hk1 hS => ?_)
  obtain ⟨g12, gs12⟩ := u
  try dsimp only at hw9 hB9
  obtain ⟨hP1, hD1⟩ := hB9
  rw [ht] at hP1
  have hP := hP1
  have hD := hD1.weaken (fun _ q _ h => hFc q.1 h)
  generalize H1 = H at hP hS ⊢
  have hP : va_P (dC, dI) vwCl (WR a k h0 vi vj (fT (fT vF 0 g5) 0 g12) (fT (fT vG 1 gs5) 1 gs12)) H := hP
  have hD : va_D A (WR a k h0 vi vj (fT (fT vF 0 g5) 0 g12) (fT (fT vG 1 gs5) 1 gs12)) := hD
  have e9 : fT vF 0 g12 = fT (fT vF 0 g5) 0 g12 := (fT_sm _ _ _ _).symm
  rw [← e9] at hP hD
  clear e9
  have e9 : fT vG 1 gs12 = fT (fT vG 1 gs5) 1 gs12 := (fT_sm _ _ _ _).symm
  rw [← e9] at hP hD
  clear e9
  have hP : va_P (dC, dI) vwCl (WR a k h0 vi vj (fT vF 0 g12) (fT vG 1 gs12)) H := hP
  have hD : va_D A (WR a k h0 vi vj (fT vF 0 g12) (fT vG 1 gs12)) := hD
  have f12_0 := hw9
  try dsimp only at f12_0
  refine lv_aload_n hx hb dX12_against_15 rfl (lv_at hl 0 rfl) ?_
  refine lv_iconst (v := 3) hx hb dX12_against_16 (by decide) ?_
  refine lv_iconst (v := 4) hx hb dX12_against_17 (by decide) ?_
  have hFc := allFree hD hS hA
  refine va_calli (va_runV (As := [.int 3, .int 4]) (rest := []) ⟨hx, hb, hml, hown, hts⟩ (b_X12_compare l dC dI a k h0 vi vj (fT vF 0 g12) (fT vG 1 gs12) 3 4 (fT (fT mg 3 (xn * xe)) 4 (xm * xd)) f12_0 (xn * xe) (xm * xd) (by rw [fT_ne _ _ (by omega), fT_eq]) (by rw [fT_eq]) (by first | assumption | decide | omega | rfl) (by first | assumption | decide | omega | rfl) H.size) (cwV 2 hts gwsRX12_against_1 rfl rfl rfl (by decide +kernel) ⟨by decide +kernel, by decide +kernel⟩) ⟨fun a U g mk q => by obtain ⟨q0, q1, qP, qK, qD⟩ := q; exact ⟨q0, q1, qP, va_K.moved (u := U) (U := U.calling g mk a) (Vm.Alike.refl U.vm) qK, qD⟩, va_recv hK hP (ci := 12) (q0 := 0) rfl rfl, fun U hU9 hW => ⟨rfl, by rw [hU9], by rw [hU9]; exact hP, va_K.moved hW.alike hK, hD.weaken (fun _ _ _ _ => trivial)⟩⟩ rfl rfl hl.1 rfl (lv_room (Nat.le_of_ble_eq_true rfl)) dX12_against_18 ⟨by decide +kernel, by decide +kernel⟩) hS (fun q _ h => hFc q h) hFc (fun r18 u t9_ H1 locs ht hvm hw9 hB9 hz1 hk1 hS => ?_)
  obtain ⟨hP1, hD1⟩ := hB9
  rw [ht] at hP1
  have hP := hP1
  have hD := hD1.weaken (fun _ q _ h => hFc q.1 h)
  generalize H1 = H at hP hS ⊢
  have hP : va_P (dC, dI) vwCl (WR a k h0 vi vj (fT vF 0 g12) (fT vG 1 gs12)) H := hP
  have hD : va_D A (WR a k h0 vi vj (fT vF 0 g12) (fT vG 1 gs12)) := hD
  have f18_0 := hw9
  try dsimp only at f18_0
  refine W.widen (k := 0) (n := 0) (by decide +kernel) (by decide +kernel) ?_
  exact W.iret (v := r18) hx hb hr (fun t9_ ht hW => ⟨⟨r18, (g12, gs12, (fT (fT mg 3 (xn * xe)) 4 (xm * xd))), rfl, by (try dsimp only); exact ⟨f12_0, f18_0, fun q h1 => by (rw [fT_ne _ _ (by omega), fT_ne _ _ (by omega)])⟩, by rw [ht]; exact hP, hD⟩, hS.F ht⟩) hS.2.2 dX12_against_21

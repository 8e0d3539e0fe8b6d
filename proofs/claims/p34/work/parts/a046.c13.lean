theorem dX12_signAt_0 : decode cX12_signAt 0 = .ok (.aload_n 0, 1) := dk_42 (by decide +kernel)
theorem dX12_signAt_1 : decode cX12_signAt 1 = .ok (.getfield 414, 3) := dk_180 (by decide +kernel)
theorem dX12_signAt_4 : decode cX12_signAt 4 = .ok (.ifCond .ne 14, 3) := dk_154 (by decide +kernel)
theorem dX12_signAt_7 : decode cX12_signAt 7 = .ok (.aload_n 0, 1) := dk_42 (by decide +kernel)
theorem dX12_signAt_8 : decode cX12_signAt 8 = .ok (.aload_n 0, 1) := dk_42 (by decide +kernel)
theorem dX12_signAt_9 : decode cX12_signAt 9 = .ok (.iload_n 1, 1) := dk_27 (by decide +kernel)
theorem dX12_signAt_10 : decode cX12_signAt 10 = .ok (.iload_n 2, 1) := dk_28 (by decide +kernel)
theorem dX12_signAt_11 : decode cX12_signAt 11 = .ok (.invokevirtual 405, 3) := dk_182 (by decide +kernel)
theorem dX12_signAt_14 : decode cX12_signAt 14 = .ok (.invokevirtual 353, 3) := dk_182 (by decide +kernel)
theorem dX12_signAt_17 : decode cX12_signAt 17 = .ok (.ireturn, 1) := dk_172 (by decide +kernel)
theorem dX12_signAt_18 : decode cX12_signAt 18 = .ok (.aload_n 0, 1) := dk_42 (by decide +kernel)
theorem dX12_signAt_19 : decode cX12_signAt 19 = .ok (.getfield 33, 3) := dk_180 (by decide +kernel)
theorem dX12_signAt_22 : decode cX12_signAt 22 = .ok (.aload_n 0, 1) := dk_42 (by decide +kernel)
theorem dX12_signAt_23 : decode cX12_signAt 23 = .ok (.iload_n 1, 1) := dk_27 (by decide +kernel)
theorem dX12_signAt_24 : decode cX12_signAt 24 = .ok (.iload_n 2, 1) := dk_28 (by decide +kernel)
theorem dX12_signAt_25 : decode cX12_signAt 25 = .ok (.invokevirtual 430, 3) := dk_182 (by decide +kernel)
theorem dX12_signAt_28 : decode cX12_signAt 28 = .ok (.laload, 1) := dk_47 (by decide +kernel)
theorem dX12_signAt_29 : decode cX12_signAt 29 = .ok (.lstore_n 3, 1) := dk_66 (by decide +kernel)
theorem dX12_signAt_30 : decode cX12_signAt 30 = .ok (.lload_n 3, 1) := dk_33 (by decide +kernel)
theorem dX12_signAt_31 : decode cX12_signAt 31 = .ok (.lconst 0, 1) := dk_9 (by decide +kernel)
theorem dX12_signAt_32 : decode cX12_signAt 32 = .ok (.lcmp, 1) := dk_148 (by decide +kernel)
theorem dX12_signAt_33 : decode cX12_signAt 33 = .ok (.ifCond .ge 7, 3) := dk_156 (by decide +kernel)
theorem dX12_signAt_36 : decode cX12_signAt 36 = .ok (.iconst (-1), 1) := dk_2 (by decide +kernel)
theorem dX12_signAt_37 : decode cX12_signAt 37 = .ok (.goto 14, 3) := dk_167 (by decide +kernel)
theorem dX12_signAt_40 : decode cX12_signAt 40 = .ok (.lload_n 3, 1) := dk_33 (by decide +kernel)
theorem dX12_signAt_41 : decode cX12_signAt 41 = .ok (.lconst 0, 1) := dk_9 (by decide +kernel)
theorem dX12_signAt_42 : decode cX12_signAt 42 = .ok (.lcmp, 1) := dk_148 (by decide +kernel)
theorem dX12_signAt_43 : decode cX12_signAt 43 = .ok (.ifCond .le 7, 3) := dk_158 (by decide +kernel)
theorem dX12_signAt_46 : decode cX12_signAt 46 = .ok (.iconst 1, 1) := dk_4 (by decide +kernel)
theorem dX12_signAt_47 : decode cX12_signAt 47 = .ok (.goto 4, 3) := dk_167 (by decide +kernel)
theorem dX12_signAt_50 : decode cX12_signAt 50 = .ok (.iconst 0, 1) := dk_3 (by decide +kernel)
theorem dX12_signAt_51 : decode cX12_signAt 51 = .ok (.ireturn, 1) := dk_172 (by decide +kernel)
def wsRX12_signAt : List Cond := .code yX12_signAt cX12_signAt 5 (some .int) :: ([.fieldLink RX12 414 "OptimaWorksModel" "quick" "Z", .fieldLink RX12 33 "OptimaWorksModel" "fast" "[J"] ++ wsX120 ++ (wsV RX12 430 RX12 yX12_place1 wsRX12_place1) ++ (wsV RX12 405 RX12 yX12_at wsRX12_at) ++ (wsV RX12 353 RX12 yX12_sign wsRX12_sign))
theorem iwsRX12_signAt_in12 : ∀ w ∈ wsX120, w ∈ wsRX12_signAt := fun _ h => List.mem_cons_of_mem _ (List.mem_append_left _ (List.mem_append_left _ (List.mem_append_left _ (List.mem_append_right _ h))))
theorem gwsRX12_signAt_0 : GoodIn wsRX12_signAt (wsV RX12 430 RX12 yX12_place1 wsRX12_place1) := goodIn_sub (fun _ h => List.mem_cons_of_mem _ (List.mem_append_left _ (List.mem_append_left _ (List.mem_append_right _ h)))) (gdV (by decide +kernel) gdwsRX12_place1)
theorem gwsRX12_signAt_1 : GoodIn wsRX12_signAt (wsV RX12 405 RX12 yX12_at wsRX12_at) := goodIn_sub (fun _ h => List.mem_cons_of_mem _ (List.mem_append_left _ (List.mem_append_right _ h))) (gdV (by decide +kernel) gdwsRX12_at)
theorem gwsRX12_signAt_2 : GoodIn wsRX12_signAt (wsV RX12 353 RX12 yX12_sign wsRX12_sign) := goodIn_sub (fun _ h => List.mem_cons_of_mem _ (List.mem_append_right _ h)) (gdV (by decide +kernel) gdwsRX12_sign)
theorem gdwsRX12_signAt : wsRX12_signAt.all goodWord = true := gdC rfl (gdA (gdA (gdA (gdA (by decide +kernel : ([.fieldLink RX12 414 "OptimaWorksModel" "quick" "Z", .fieldLink RX12 33 "OptimaWorksModel" "fast" "[J"] : List Cond).all goodWord = true) gdwsX120) (gdV (by decide +kernel) gdwsRX12_place1)) (gdV (by decide +kernel) gdwsRX12_at)) (gdV (by decide +kernel) gdwsRX12_sign))
set_option maxHeartbeats 4000000 in
set_option maxRecDepth 100000 in
/-- signAt(row, column) -/
theorem r_X12_signAt (l : Launch) (dC : Nat → ClassId) (dI : Nat → Nat → Nat) (a : Nat → Nat) (k : Nat → ClassId) (h0 : Nat) (vi : Nat → Int32) (vj : Nat → Int64) (vF : Nat → Nat → Int32) (vG : Nat → Nat → Int64) (rn : Nat) (cn : Nat) (C : Nat) (T : Nat) (t : Nat → Nat → Int) (D : Int) (mg : Nat → Int) (hBg : Bg (vF 0) mg) (hC : vi 5 = nI C) (hT : Tab (vi 11) C T mg (vG 7) (vj 12) t D) (hC45 : 0 < C ∧ C ≤ 45) (hT60 : T < 60) (hsz : T * (C + 1) ≤ 970) (hrn : rn < T) (hcn : cn ≤ C) (sz : Nat) : Met l yX12_signAt wsRX12_signAt ({ frames := 1, cells := 0, slots := 0, locals := 22 }) (va_Pc [.ref h0, .int (nI rn), .int (nI cn)] (fun U => U.heap.size = sz ∧ va_P (dC, dI) vwCl (WR a k h0 vi vj vF vG) U.heap ∧ va_K (dC, dI) vwCl (tX12 k) U ∧ va_D (fun _ => True) (WR a k h0 vi vj vF vG))) (va_Qi (fun (r : Int32) (u : Unit) => (((r).toInt = 0 ∧ t rn cn = 0) ∨ ((r).toInt = 1 ∧ 0 < t rn cn) ∨ ((r).toInt = -1 ∧ t rn cn < 0))) (fun (u : Unit) t => va_P (dC, dI) vwCl (WR a k h0 vi vj vF vG) t.heap ∧ va_D (va_A (WR a k h0 vi vj vF vG) sz) (WR a k h0 vi vj vF vG)) (va_A (WR a k h0 vi vj vF vG) sz)) 0 0 (va_A (WR a k h0 vi vj vF vG) sz) := by
  refine Met.ofW (cc := cX12_signAt) (maxL := 5) (ret := (some .int)) (by decide) rfl ?_
  intro p e s m args below meth c s₁ B hml hv
  obtain ⟨rfl, hsz, hP, hK, hD0⟩ := hv
  have hx := B.exec
  have hb := B.bytes
  have hr := B.returns
  have hts := atoms_spec (ws := wsRX12_signAt) B.pre
  have hown : s.vm.findClass RX12 = some m.cls := findClass_of_methodNamed B.named
  have hlocks := B.notSynchronized
  subst hsz
  have hD := hD0.self (sz := s.heap.size)
  generalize hAe : va_A (WR a k h0 vi vj vF vG) s.heap.size = A at hD ⊢
  have hA : ∀ q : Nat, s.heap.size ≤ q → A q := fun q h => by rw [← hAe]; exact Or.inr h
  have hS : va_S A s.heap s.heap [] := va_S.rf
  have hl := lv_entry ([.ref h0, .int (nI rn), .int (nI cn)]) (n := 5) (Nat.le_of_ble_eq_true rfl)
  rw [lg_entry_eq]
  generalize (lg_sl ([.ref h0, .int (nI rn), .int (nI cn)]) ++ List.replicate (5 - (lg_sl ([.ref h0, .int (nI rn), .int (nI cn)])).length) Slot.unset).toArray = ls at hl ⊢
  have hl : lv_has ls 5 [(0, .ref h0), (1, .int (nI rn)), (2, .int (nI cn))] := hl
  have hpl := pl_lt hrn hcn
  refine lv_aload_n hx hb dX12_signAt_0 rfl (lv_at hl 0 rfl) ?_
  refine va_get (D := (dC, dI)) (ci := 12) (v := .int (vi 11)) (C := RX12) (T := TX12) (N := 163) (fs := fM (vS a vi vj)) hx hb hts iwsRX12_signAt_in12 hown hK hP 0 rfl rfl 11 (by decide) (hts (.fieldLink RX12 414 "OptimaWorksModel" "quick" "Z") (by decide +kernel)) (fun _ h9 => h9) rfl dX12_signAt_1 ?_
  refine lv_if_ne (tgt := 18) hx hb dX12_signAt_4 (by decide) (fun c_4 => ?_) (fun c_4 => ?_)
  · have t_4 : ((vi 11)).toInt ≠ 0 := toI_ne c_4 rfl (by decide)
    refine lv_aload_n hx hb dX12_signAt_18 rfl (lv_at hl 0 rfl) ?_
    refine va_get (D := (dC, dI)) (ci := 12) (v := .ref (a 7)) (C := RX12) (T := TX12) (N := 163) (fs := fM (vS a vi vj)) hx hb hts iwsRX12_signAt_in12 hown hK hP 0 rfl rfl 13 (by decide) (hts (.fieldLink RX12 33 "OptimaWorksModel" "fast" "[J") (by decide +kernel)) (fun _ h9 => h9) rfl dX12_signAt_19 ?_
    refine lv_aload_n hx hb dX12_signAt_22 rfl (lv_at hl 0 rfl) ?_
    refine lv_iload_n hx hb dX12_signAt_23 rfl (lv_at hl 1 rfl) ?_
    refine lv_iload_n hx hb dX12_signAt_24 rfl (lv_at hl 2 rfl) ?_
    have hFc := allFree hD hS hA
    refine va_calli (va_runV (As := [.int (nI rn), .int (nI cn)]) (rest := [.ref (a 7)]) ⟨hx, hb, hml, hown, hts⟩ (r_X12_place1 l dC dI a k h0 vi vj vF vG rn cn C (by first | assumption | decide | omega | rfl) s.heap.size) (cwV 2 hts gwsRX12_signAt_0 rfl rfl rfl (by decide +kernel) ⟨by decide +kernel, by decide +kernel⟩) ⟨fun a U g mk q => by obtain ⟨q0, q1, qP, qK, qD⟩ := q; exact ⟨q0, q1, qP, va_K.moved (u := U) (U := U.calling g mk a) (Vm.Alike.refl U.vm) qK, qD⟩, va_recv hK hP (ci := 12) (q0 := 0) rfl rfl, fun U hU9 hW => ⟨rfl, by rw [hU9], by rw [hU9]; exact hP, va_K.moved hW.alike hK, hD.weaken (fun _ _ _ _ => trivial)⟩⟩ rfl rfl hl.1 rfl (lv_room (Nat.le_of_ble_eq_true rfl)) dX12_signAt_25 ⟨by decide +kernel, by decide +kernel⟩) hS (fun q _ h => hFc q h) hFc (fun r25 u t9_ H1 locs ht hvm hw9 hB9 hz1 hk1 hS => ?_)
    obtain ⟨hP1, hD1⟩ := hB9
    rw [ht] at hP1
    have hP := hP1
    have hD := hD1.weaken (fun _ q _ h => hFc q.1 h)
    generalize H1 = H at hP hS ⊢
    have hP : va_P (dC, dI) vwCl (WR a k h0 vi vj vF vG) H := hP
    have hD : va_D A (WR a k h0 vi vj vF vG) := hD
    obtain rfl := hw9
    refine va_lald (cA := k 7) (n := 1000) (f := (vG 7)) hx hb hK hP 8 7 (WR_get 7 (by decide)) (TR_get 7 (by decide)) (vp_in_nI (show (rn * (C + 1) + cn) < 1000 by omega) (by omega)) dX12_signAt_28 ?_
    refine lv_topl (fun y1 hy1 => ?_)
    obtain rfl : ((vG 7) (rn * (C + 1) + cn)) = y1 := (hy1.trans (by rw [nI_clamp (by omega)])).symm
    refine lv_lstore_n hx hb dX12_signAt_29 rfl hl (by decide) rfl (fun ls (hl : lv_has ls _ ([(3, .long ((vG 7) (rn * (C + 1) + cn))), (0, .ref h0), (1, .int (nI rn)), (2, .int (nI cn))])) => ?_)
    refine lv_lload_n hx hb dX12_signAt_30 rfl (lv_at hl 0 rfl) ?_
    refine lv_lconst (v := 0) hx hb dX12_signAt_31 (by decide) ?_
    refine W.lcmp hx hb dX12_signAt_32 ?_
    refine lv_if_ge (tgt := 40) hx hb dX12_signAt_33 (by decide) (fun c_33 => ?_) (fun c_33 => ?_)
    · have t_33 : (((vG 7) (rn * (C + 1) + cn))).toInt ≥ 0 := toL_ge c_33 rfl (by decide)
      refine lv_lload_n hx hb dX12_signAt_40 rfl (lv_at hl 0 rfl) ?_
      refine lv_lconst (v := 0) hx hb dX12_signAt_41 (by decide) ?_
      refine W.lcmp hx hb dX12_signAt_42 ?_
      refine lv_if_le (tgt := 50) hx hb dX12_signAt_43 (by decide) (fun c_43 => ?_) (fun c_43 => ?_)
      · have t_43 : (((vG 7) (rn * (C + 1) + cn))).toInt ≤ 0 := toL_le c_43 rfl (by decide)
        refine lv_iconst (v := 0) hx hb dX12_signAt_50 (by decide) ?_
        refine W.widen (k := 0) (n := 0) (by decide +kernel) (by decide +kernel) ?_
        exact W.iret (v := 0) hx hb hr (fun t9_ ht hW => ⟨⟨0, (), rfl, by (try dsimp only); (have hQ := (hT.q c_4).2); (have e9 := hQ.2.1 rn hrn cn hcn); (have z0 : (0 : Int32).toInt = 0 := by decide); (have z1 : (1 : Int32).toInt = 1 := by decide); (have z2 : (-1 : Int32).toInt = -1 := by decide); omega, by rw [ht]; exact hP, hD⟩, hS.F ht⟩) hS.2.2 dX12_signAt_51
      · have t_43 : ¬ (((vG 7) (rn * (C + 1) + cn))).toInt ≤ 0 := toL_nle c_43 rfl (by decide)
        refine lv_iconst (v := 1) hx hb dX12_signAt_46 (by decide) ?_
        refine lv_goto (tgt := 51) hx hb dX12_signAt_47 (by decide) ?_
        refine W.widen (k := 0) (n := 0) (by decide +kernel) (by decide +kernel) ?_
        exact W.iret (v := 1) hx hb hr (fun t9_ ht hW => ⟨⟨1, (), rfl, by (try dsimp only); (have hQ := (hT.q c_4).2); (have e9 := hQ.2.1 rn hrn cn hcn); (have z0 : (0 : Int32).toInt = 0 := by decide); (have z1 : (1 : Int32).toInt = 1 := by decide); (have z2 : (-1 : Int32).toInt = -1 := by decide); omega, by rw [ht]; exact hP, hD⟩, hS.F ht⟩) hS.2.2 dX12_signAt_51
    · have t_33 : ¬ (((vG 7) (rn * (C + 1) + cn))).toInt ≥ 0 := toL_nge c_33 rfl (by decide)
      refine lv_iconst (v := (-1)) hx hb dX12_signAt_36 (by decide) ?_
      refine lv_goto (tgt := 51) hx hb dX12_signAt_37 (by decide) ?_
      refine W.widen (k := 0) (n := 0) (by decide +kernel) (by decide +kernel) ?_
      exact W.iret (v := (-1)) hx hb hr (fun t9_ ht hW => ⟨⟨(-1), (), rfl, by (try dsimp only); (have hQ := (hT.q c_4).2); (have e9 := hQ.2.1 rn hrn cn hcn); (have z0 : (0 : Int32).toInt = 0 := by decide); (have z1 : (1 : Int32).toInt = 1 := by decide); (have z2 : (-1 : Int32).toInt = -1 := by decide); omega, by rw [ht]; exact hP, hD⟩, hS.F ht⟩) hS.2.2 dX12_signAt_51
  · have t_4 : ((vi 11)).toInt = 0 := toI_nne c_4 rfl (by decide)
    refine lv_aload_n hx hb dX12_signAt_7 rfl (lv_at hl 0 rfl) ?_
    refine lv_aload_n hx hb dX12_signAt_8 rfl (lv_at hl 0 rfl) ?_
    refine lv_iload_n hx hb dX12_signAt_9 rfl (lv_at hl 1 rfl) ?_
    refine lv_iload_n hx hb dX12_signAt_10 rfl (lv_at hl 2 rfl) ?_
    have hFc := allFree hD hS hA
    refine va_calli (va_runV (As := [.int (nI rn), .int (nI cn)]) (rest := [.ref h0]) ⟨hx, hb, hml, hown, hts⟩ (r_X12_at l dC dI a k h0 vi vj vF vG rn cn C (by first | assumption | decide | omega | rfl) s.heap.size) (cwV 2 hts gwsRX12_signAt_1 rfl rfl rfl (by decide +kernel) ⟨by decide +kernel, by decide +kernel⟩) ⟨fun a U g mk q => by obtain ⟨q0, q1, qP, qK, qD⟩ := q; exact ⟨q0, q1, qP, va_K.moved (u := U) (U := U.calling g mk a) (Vm.Alike.refl U.vm) qK, qD⟩, va_recv hK hP (ci := 12) (q0 := 0) rfl rfl, fun U hU9 hW => ⟨rfl, by rw [hU9], by rw [hU9]; exact hP, va_K.moved hW.alike hK, hD.weaken (fun _ _ _ _ => trivial)⟩⟩ rfl rfl hl.1 rfl (lv_room (Nat.le_of_ble_eq_true rfl)) dX12_signAt_11 ⟨by decide +kernel, by decide +kernel⟩) hS (fun q _ h => hFc q h) hFc (fun r11 u t9_ H1 locs ht hvm hw9 hB9 hz1 hk1 hS => ?_)
    obtain ⟨hP1, hD1⟩ := hB9
    rw [ht] at hP1
    have hP := hP1
    have hD := hD1.weaken (fun _ q _ h => hFc q.1 h)
    generalize H1 = H at hP hS ⊢
    have hP : va_P (dC, dI) vwCl (WR a k h0 vi vj vF vG) H := hP
    have hD : va_D A (WR a k h0 vi vj vF vG) := hD
    obtain rfl := hw9
    have hFc := allFree hD hS hA
    refine va_calli (va_runV (As := [.int (nI (30 + rn * (C + 1) + cn))]) (rest := []) ⟨hx, hb, hml, hown, hts⟩ (b_X12_sign l dC dI a k h0 vi vj vF vG (30 + rn * (C + 1) + cn) mg hBg (mg (30 + rn * (C + 1) + cn)) rfl (by first | assumption | decide | omega | rfl) H.size) (cwV 1 hts gwsRX12_signAt_2 rfl rfl rfl (by decide +kernel) ⟨by decide +kernel, by decide +kernel⟩) ⟨fun a U g mk q => by obtain ⟨q0, q1, qP, qK, qD⟩ := q; exact ⟨q0, q1, qP, va_K.moved (u := U) (U := U.calling g mk a) (Vm.Alike.refl U.vm) qK, qD⟩, va_recv hK hP (ci := 12) (q0 := 0) rfl rfl, fun U hU9 hW => ⟨rfl, by rw [hU9], by rw [hU9]; exact hP, va_K.moved hW.alike hK, hD.weaken (fun _ _ _ _ => trivial)⟩⟩ rfl rfl hl.1 rfl (lv_room (Nat.le_of_ble_eq_true rfl)) dX12_signAt_14 ⟨by decide +kernel, by decide +kernel⟩) hS (fun q _ h => hFc q h) hFc (fun r14 u t9_ H1 locs ht hvm hw9 hB9 hz1 hk1 hS => ?_)
    obtain ⟨hP1, hD1⟩ := hB9
    rw [ht] at hP1
    have hP := hP1
    have hD := hD1.weaken (fun _ q _ h => hFc q.1 h)
    generalize H1 = H at hP hS ⊢
    have hP : va_P (dC, dI) vwCl (WR a k h0 vi vj vF vG) H := hP
    have hD : va_D A (WR a k h0 vi vj vF vG) := hD
    have f14_0 := hw9
    try dsimp only at f14_0
    refine W.widen (k := 0) (n := 0) (by decide +kernel) (by decide +kernel) ?_
    exact W.iret (v := r14) hx hb hr (fun t9_ ht hW => ⟨⟨r14, (), rfl, by (try dsimp only); (have hN := hT.n c_4); (have e9 := hN.1 rn hrn cn hcn); (have f9 := f14_0); omega, by rw [ht]; exact hP, hD⟩, hS.F ht⟩) hS.2.2 dX12_signAt_17
theorem dX12_lies_0 : decode cX12_lies 0 = .ok (.aload_n 0, 1) := dk_42 (by decide +kernel)
theorem dX12_lies_1 : decode cX12_lies 1 = .ok (.getfield 414, 3) := dk_180 (by decide +kernel)
theorem dX12_lies_4 : decode cX12_lies 4 = .ok (.ifCond .eq 85, 3) := dk_153 (by decide +kernel)
theorem dX12_lies_7 : decode cX12_lies 7 = .ok (.aload_n 0, 1) := dk_42 (by decide +kernel)
theorem dX12_lies_8 : decode cX12_lies 8 = .ok (.getfield 33, 3) := dk_180 (by decide +kernel)
theorem dX12_lies_11 : decode cX12_lies 11 = .ok (.aload_n 0, 1) := dk_42 (by decide +kernel)
theorem dX12_lies_12 : decode cX12_lies 12 = .ok (.iload_n 1, 1) := dk_27 (by decide +kernel)
theorem dX12_lies_13 : decode cX12_lies 13 = .ok (.aload_n 0, 1) := dk_42 (by decide +kernel)
theorem dX12_lies_14 : decode cX12_lies 14 = .ok (.getfield 396, 3) := dk_180 (by decide +kernel)
theorem dX12_lies_17 : decode cX12_lies 17 = .ok (.invokevirtual 430, 3) := dk_182 (by decide +kernel)
theorem dX12_lies_20 : decode cX12_lies 20 = .ok (.laload, 1) := dk_47 (by decide +kernel)
theorem dX12_lies_21 : decode cX12_lies 21 = .ok (.aload_n 0, 1) := dk_42 (by decide +kernel)
theorem dX12_lies_22 : decode cX12_lies 22 = .ok (.getfield 33, 3) := dk_180 (by decide +kernel)
theorem dX12_lies_25 : decode cX12_lies 25 = .ok (.aload_n 0, 1) := dk_42 (by decide +kernel)
theorem dX12_lies_26 : decode cX12_lies 26 = .ok (.iload_n 2, 1) := dk_28 (by decide +kernel)
theorem dX12_lies_27 : decode cX12_lies 27 = .ok (.iload_n 3, 1) := dk_29 (by decide +kernel)
theorem dX12_lies_28 : decode cX12_lies 28 = .ok (.invokevirtual 430, 3) := dk_182 (by decide +kernel)
theorem dX12_lies_31 : decode cX12_lies 31 = .ok (.laload, 1) := dk_47 (by decide +kernel)
theorem dX12_lies_32 : decode cX12_lies 32 = .ok (.lmul, 1) := dk_105 (by decide +kernel)
theorem dX12_lies_33 : decode cX12_lies 33 = .ok (.lstore 4, 2) := dk_55 (by decide +kernel)
theorem dX12_lies_35 : decode cX12_lies 35 = .ok (.aload_n 0, 1) := dk_42 (by decide +kernel)
theorem dX12_lies_36 : decode cX12_lies 36 = .ok (.getfield 33, 3) := dk_180 (by decide +kernel)
theorem dX12_lies_39 : decode cX12_lies 39 = .ok (.aload_n 0, 1) := dk_42 (by decide +kernel)
theorem dX12_lies_40 : decode cX12_lies 40 = .ok (.iload_n 2, 1) := dk_28 (by decide +kernel)
theorem dX12_lies_41 : decode cX12_lies 41 = .ok (.aload_n 0, 1) := dk_42 (by decide +kernel)
theorem dX12_lies_42 : decode cX12_lies 42 = .ok (.getfield 396, 3) := dk_180 (by decide +kernel)
theorem dX12_lies_45 : decode cX12_lies 45 = .ok (.invokevirtual 430, 3) := dk_182 (by decide +kernel)
theorem dX12_lies_48 : decode cX12_lies 48 = .ok (.laload, 1) := dk_47 (by decide +kernel)
theorem dX12_lies_49 : decode cX12_lies 49 = .ok (.aload_n 0, 1) := dk_42 (by decide +kernel)
theorem dX12_lies_50 : decode cX12_lies 50 = .ok (.getfield 33, 3) := dk_180 (by decide +kernel)
theorem dX12_lies_53 : decode cX12_lies 53 = .ok (.aload_n 0, 1) := dk_42 (by decide +kernel)
theorem dX12_lies_54 : decode cX12_lies 54 = .ok (.iload_n 1, 1) := dk_27 (by decide +kernel)
theorem dX12_lies_55 : decode cX12_lies 55 = .ok (.iload_n 3, 1) := dk_29 (by decide +kernel)
theorem dX12_lies_56 : decode cX12_lies 56 = .ok (.invokevirtual 430, 3) := dk_182 (by decide +kernel)
theorem dX12_lies_59 : decode cX12_lies 59 = .ok (.laload, 1) := dk_47 (by decide +kernel)
theorem dX12_lies_60 : decode cX12_lies 60 = .ok (.lmul, 1) := dk_105 (by decide +kernel)
theorem dX12_lies_61 : decode cX12_lies 61 = .ok (.lstore 6, 2) := dk_55 (by decide +kernel)
theorem dX12_lies_63 : decode cX12_lies 63 = .ok (.lload 4, 2) := dk_22 (by decide +kernel)
theorem dX12_lies_65 : decode cX12_lies 65 = .ok (.lload 6, 2) := dk_22 (by decide +kernel)
theorem dX12_lies_67 : decode cX12_lies 67 = .ok (.lcmp, 1) := dk_148 (by decide +kernel)
theorem dX12_lies_68 : decode cX12_lies 68 = .ok (.ifCond .ge 7, 3) := dk_156 (by decide +kernel)
theorem dX12_lies_71 : decode cX12_lies 71 = .ok (.iconst (-1), 1) := dk_2 (by decide +kernel)
theorem dX12_lies_72 : decode cX12_lies 72 = .ok (.goto 16, 3) := dk_167 (by decide +kernel)
theorem dX12_lies_75 : decode cX12_lies 75 = .ok (.lload 4, 2) := dk_22 (by decide +kernel)
theorem dX12_lies_77 : decode cX12_lies 77 = .ok (.lload 6, 2) := dk_22 (by decide +kernel)
theorem dX12_lies_79 : decode cX12_lies 79 = .ok (.lcmp, 1) := dk_148 (by decide +kernel)
theorem dX12_lies_80 : decode cX12_lies 80 = .ok (.ifCond .le 7, 3) := dk_158 (by decide +kernel)
theorem dX12_lies_83 : decode cX12_lies 83 = .ok (.iconst 1, 1) := dk_4 (by decide +kernel)
theorem dX12_lies_84 : decode cX12_lies 84 = .ok (.goto 4, 3) := dk_167 (by decide +kernel)
theorem dX12_lies_87 : decode cX12_lies 87 = .ok (.iconst 0, 1) := dk_3 (by decide +kernel)
theorem dX12_lies_88 : decode cX12_lies 88 = .ok (.ireturn, 1) := dk_172 (by decide +kernel)
theorem dX12_lies_89 : decode cX12_lies 89 = .ok (.aload_n 0, 1) := dk_42 (by decide +kernel)
theorem dX12_lies_90 : decode cX12_lies 90 = .ok (.bipush 22, 2) := dk_16 (by decide +kernel)
theorem dX12_lies_92 : decode cX12_lies 92 = .ok (.aload_n 0, 1) := dk_42 (by decide +kernel)
theorem dX12_lies_93 : decode cX12_lies 93 = .ok (.iload_n 1, 1) := dk_27 (by decide +kernel)
theorem dX12_lies_94 : decode cX12_lies 94 = .ok (.aload_n 0, 1) := dk_42 (by decide +kernel)
theorem dX12_lies_95 : decode cX12_lies 95 = .ok (.getfield 396, 3) := dk_180 (by decide +kernel)
theorem dX12_lies_98 : decode cX12_lies 98 = .ok (.invokevirtual 405, 3) := dk_182 (by decide +kernel)
theorem dX12_lies_101 : decode cX12_lies 101 = .ok (.aload_n 0, 1) := dk_42 (by decide +kernel)
theorem dX12_lies_102 : decode cX12_lies 102 = .ok (.iload_n 2, 1) := dk_28 (by decide +kernel)
theorem dX12_lies_103 : decode cX12_lies 103 = .ok (.iload_n 3, 1) := dk_29 (by decide +kernel)
theorem dX12_lies_104 : decode cX12_lies 104 = .ok (.invokevirtual 405, 3) := dk_182 (by decide +kernel)
theorem dX12_lies_107 : decode cX12_lies 107 = .ok (.invokevirtual 390, 3) := dk_182 (by decide +kernel)
theorem dX12_lies_110 : decode cX12_lies 110 = .ok (.aload_n 0, 1) := dk_42 (by decide +kernel)
theorem dX12_lies_111 : decode cX12_lies 111 = .ok (.bipush 23, 2) := dk_16 (by decide +kernel)
theorem dX12_lies_113 : decode cX12_lies 113 = .ok (.aload_n 0, 1) := dk_42 (by decide +kernel)
theorem dX12_lies_114 : decode cX12_lies 114 = .ok (.iload_n 2, 1) := dk_28 (by decide +kernel)
theorem dX12_lies_115 : decode cX12_lies 115 = .ok (.aload_n 0, 1) := dk_42 (by decide +kernel)
theorem dX12_lies_116 : decode cX12_lies 116 = .ok (.getfield 396, 3) := dk_180 (by decide +kernel)
theorem dX12_lies_119 : decode cX12_lies 119 = .ok (.invokevirtual 405, 3) := dk_182 (by decide +kernel)
theorem dX12_lies_122 : decode cX12_lies 122 = .ok (.aload_n 0, 1) := dk_42 (by decide +kernel)
theorem dX12_lies_123 : decode cX12_lies 123 = .ok (.iload_n 1, 1) := dk_27 (by decide +kernel)
theorem dX12_lies_124 : decode cX12_lies 124 = .ok (.iload_n 3, 1) := dk_29 (by decide +kernel)
theorem dX12_lies_125 : decode cX12_lies 125 = .ok (.invokevirtual 405, 3) := dk_182 (by decide +kernel)
theorem dX12_lies_128 : decode cX12_lies 128 = .ok (.invokevirtual 390, 3) := dk_182 (by decide +kernel)
theorem dX12_lies_131 : decode cX12_lies 131 = .ok (.aload_n 0, 1) := dk_42 (by decide +kernel)
theorem dX12_lies_132 : decode cX12_lies 132 = .ok (.bipush 22, 2) := dk_16 (by decide +kernel)
theorem dX12_lies_134 : decode cX12_lies 134 = .ok (.bipush 23, 2) := dk_16 (by decide +kernel)
theorem dX12_lies_136 : decode cX12_lies 136 = .ok (.invokevirtual 393, 3) := dk_182 (by decide +kernel)
theorem dX12_lies_139 : decode cX12_lies 139 = .ok (.ireturn, 1) := dk_172 (by decide +kernel)
def wsRX12_lies : List Cond := .code yX12_lies cX12_lies 8 (some .int) :: ([.fieldLink RX12 414 "OptimaWorksModel" "quick" "Z", .fieldLink RX12 396 "OptimaWorksModel" "columns" "I", .fieldLink RX12 33 "OptimaWorksModel" "fast" "[J"] ++ wsX120 ++ (wsV RX12 405 RX12 yX12_at wsRX12_at) ++ (wsV RX12 390 RX12 yX12_times wsRX12_times) ++ (wsV RX12 393 RX12 yX12_compare wsRX12_compare) ++ (wsV RX12 430 RX12 yX12_place1 wsRX12_place1))
theorem iwsRX12_lies_in12 : ∀ w ∈ wsX120, w ∈ wsRX12_lies := fun _ h => List.mem_cons_of_mem _ (List.mem_append_left _ (List.mem_append_left _ (List.mem_append_left _ (List.mem_append_left _ (List.mem_append_right _ h)))))
theorem gwsRX12_lies_0 : GoodIn wsRX12_lies (wsV RX12 405 RX12 yX12_at wsRX12_at) := goodIn_sub (fun _ h => List.mem_cons_of_mem _ (List.mem_append_left _ (List.mem_append_left _ (List.mem_append_left _ (List.mem_append_right _ h))))) (gdV (by decide +kernel) gdwsRX12_at)
theorem gwsRX12_lies_1 : GoodIn wsRX12_lies (wsV RX12 390 RX12 yX12_times wsRX12_times) := goodIn_sub (fun _ h => List.mem_cons_of_mem _ (List.mem_append_left _ (List.mem_append_left _ (List.mem_append_right _ h)))) (gdV (by decide +kernel) gdwsRX12_times)
theorem gwsRX12_lies_2 : GoodIn wsRX12_lies (wsV RX12 393 RX12 yX12_compare wsRX12_compare) := goodIn_sub (fun _ h => List.mem_cons_of_mem _ (List.mem_append_left _ (List.mem_append_right _ h))) (gdV (by decide +kernel) gdwsRX12_compare)
theorem gwsRX12_lies_3 : GoodIn wsRX12_lies (wsV RX12 430 RX12 yX12_place1 wsRX12_place1) := goodIn_sub (fun _ h => List.mem_cons_of_mem _ (List.mem_append_right _ h)) (gdV (by decide +kernel) gdwsRX12_place1)
theorem gdwsRX12_lies : wsRX12_lies.all goodWord = true := gdC rfl (gdA (gdA (gdA (gdA (gdA (by decide +kernel : ([.fieldLink RX12 414 "OptimaWorksModel" "quick" "Z", .fieldLink RX12 396 "OptimaWorksModel" "columns" "I", .fieldLink RX12 33 "OptimaWorksModel" "fast" "[J"] : List Cond).all goodWord = true) gdwsX120) (gdV (by decide +kernel) gdwsRX12_at)) (gdV (by decide +kernel) gdwsRX12_times)) (gdV (by decide +kernel) gdwsRX12_compare)) (gdV (by decide +kernel) gdwsRX12_place1))
set_option maxHeartbeats 4000000 in
set_option maxRecDepth 100000 in
/-- lies(i, k, c) -/
theorem r_X12_lies (l : Launch) (dC : Nat → ClassId) (dI : Nat → Nat → Nat) (a : Nat → Nat) (k : Nat → ClassId) (h0 : Nat) (vi : Nat → Int32) (vj : Nat → Int64) (vF : Nat → Nat → Int32) (vG : Nat → Nat → Int64) (rn : Nat) (kn : Nat) (cn : Nat) (C : Nat) (T : Nat) (t : Nat → Nat → Int) (D : Int) (mg : Nat → Int) (hBg : Bg (vF 0) mg) (hC : vi 5 = nI C) (hT : Tab (vi 11) C T mg (vG 7) (vj 12) t D) (hC45 : 0 < C ∧ C ≤ 45) (hT60 : T < 60) (hsz : T * (C + 1) ≤ 970) (hrn : rn < T) (hkn : kn < T) (hcn : cn ≤ C) (hbd : ∀ i, i < T → ∀ j, j ≤ C → (t i j).natAbs < 2 ^ 294) (sz : Nat) : Met l yX12_lies wsRX12_lies ({ frames := 2, cells := 0, slots := 0, locals := 59 }) (va_Pc [.ref h0, .int (nI rn), .int (nI kn), .int (nI cn)] (fun U => U.heap.size = sz ∧ va_P (dC, dI) vwCl (WR a k h0 vi vj vF vG) U.heap ∧ va_K (dC, dI) vwCl (tX12 k) U ∧ va_D (fun _ => True) (WR a k h0 vi vj vF vG))) (va_Qi (fun (r : Int32) (u : (Nat → Int32) × (Nat → Int64) × (Nat → Int)) => (Bg (u.1) (u.2.2)) ∧ (∀ q, q ≠ 22 → q ≠ 23 → (u.2.2) q = mg q) ∧ (((r).toInt < 0 ∧ t rn C * t kn cn < t kn C * t rn cn) ∨ ((r).toInt = 0 ∧ t rn C * t kn cn = t kn C * t rn cn) ∨ (0 < (r).toInt ∧ t kn C * t rn cn < t rn C * t kn cn))) (fun (u : (Nat → Int32) × (Nat → Int64) × (Nat → Int)) t => va_P (dC, dI) vwCl (WR a k h0 vi vj (fT vF 0 (u.1)) (fT vG 1 (u.2.1))) t.heap ∧ va_D (va_A (WR a k h0 vi vj vF vG) sz) (WR a k h0 vi vj (fT vF 0 (u.1)) (fT vG 1 (u.2.1)))) (va_A (WR a k h0 vi vj vF vG) sz)) 0 0 (va_A (WR a k h0 vi vj vF vG) sz) := by
  refine Met.ofW (cc := cX12_lies) (maxL := 8) (ret := (some .int)) (by decide) rfl ?_
  intro p e s m args below meth c s₁ B hml hv
  obtain ⟨rfl, hsz, hP, hK, hD0⟩ := hv
  have hx := B.exec
  have hb := B.bytes
  have hr := B.returns
  have hts := atoms_spec (ws := wsRX12_lies) B.pre
  have hown : s.vm.findClass RX12 = some m.cls := findClass_of_methodNamed B.named
  have hlocks := B.notSynchronized
  subst hsz
  have hD := hD0.self (sz := s.heap.size)
  generalize hAe : va_A (WR a k h0 vi vj vF vG) s.heap.size = A at hD ⊢
  have hA : ∀ q : Nat, s.heap.size ≤ q → A q := fun q h => by rw [← hAe]; exact Or.inr h
  have hS : va_S A s.heap s.heap [] := va_S.rf
  have hl := lv_entry ([.ref h0, .int (nI rn), .int (nI kn), .int (nI cn)]) (n := 8) (Nat.le_of_ble_eq_true rfl)
  rw [lg_entry_eq]
  generalize (lg_sl ([.ref h0, .int (nI rn), .int (nI kn), .int (nI cn)]) ++ List.replicate (8 - (lg_sl ([.ref h0, .int (nI rn), .int (nI kn), .int (nI cn)])).length) Slot.unset).toArray = ls at hl ⊢
  have hl : lv_has ls 8 [(0, .ref h0), (1, .int (nI rn)), (2, .int (nI kn)), (3, .int (nI cn))] := hl
  have hpl1 := pl_lt hrn (Nat.le_refl C)
  have hpl2 := pl_lt hkn hcn
  have hpl3 := pl_lt hkn (Nat.le_refl C)
  have hpl4 := pl_lt hrn hcn
  refine lv_aload_n hx hb dX12_lies_0 rfl (lv_at hl 0 rfl) ?_
  refine va_get (D := (dC, dI)) (ci := 12) (v := .int (vi 11)) (C := RX12) (T := TX12) (N := 163) (fs := fM (vS a vi vj)) hx hb hts iwsRX12_lies_in12 hown hK hP 0 rfl rfl 11 (by decide) (hts (.fieldLink RX12 414 "OptimaWorksModel" "quick" "Z") (by decide +kernel)) (fun _ h9 => h9) rfl dX12_lies_1 ?_
  refine lv_if_eq (tgt := 89) hx hb dX12_lies_4 (by decide) (fun c_4 => ?_) (fun c_4 => ?_)
  · have t_4 : ((vi 11)).toInt = 0 := toI_eq c_4 rfl (by decide)
    refine lv_aload_n hx hb dX12_lies_89 rfl (lv_at hl 0 rfl) ?_
    refine lv_bipush (v := 22) hx hb dX12_lies_90 (by decide) ?_
    refine lv_aload_n hx hb dX12_lies_92 rfl (lv_at hl 0 rfl) ?_
    refine lv_iload_n hx hb dX12_lies_93 rfl (lv_at hl 1 rfl) ?_
    refine lv_aload_n hx hb dX12_lies_94 rfl (lv_at hl 0 rfl) ?_
    refine va_get (D := (dC, dI)) (ci := 12) (v := .int (vi 5)) (C := RX12) (T := TX12) (N := 163) (fs := fM (vS a vi vj)) hx hb hts iwsRX12_lies_in12 hown hK hP 0 rfl rfl 5 (by decide) (hts (.fieldLink RX12 396 "OptimaWorksModel" "columns" "I") (by decide +kernel)) (fun _ h9 => h9) rfl dX12_lies_95 ?_
    refine lv_topi (fun y1 hy1 => ?_)
    obtain rfl : (nI C) = y1 := (hy1.trans (hC)).symm
    have hFc := allFree hD hS hA
    refine va_calli (va_runV (As := [.int (nI rn), .int (nI C)]) (rest := [.int 22, .ref h0]) ⟨hx, hb, hml, hown, hts⟩ (r_X12_at l dC dI a k h0 vi vj vF vG rn C C (by first | assumption | decide | omega | rfl) s.heap.size) (cwV 2 hts gwsRX12_lies_0 rfl rfl rfl (by decide +kernel) ⟨by decide +kernel, by decide +kernel⟩) ⟨fun a U g mk q => by obtain ⟨q0, q1, qP, qK, qD⟩ := q; exact ⟨q0, q1, qP, va_K.moved (u := U) (U := U.calling g mk a) (Vm.Alike.refl U.vm) qK, qD⟩, va_recv hK hP (ci := 12) (q0 := 0) rfl rfl, fun U hU9 hW => ⟨rfl, by rw [hU9], by rw [hU9]; exact hP, va_K.moved hW.alike hK, hD.weaken (fun _ _ _ _ => trivial)⟩⟩ rfl rfl hl.1 rfl (lv_room (Nat.le_of_ble_eq_true rfl)) dX12_lies_98 ⟨by decide +kernel, by decide +kernel⟩) hS (fun q _ h => hFc q h) hFc (fun r98 u t9_ H1 locs ht hvm hw9 hB9 hz1 hk1 hS => ?_)
    obtain ⟨hP1, hD1⟩ := hB9
    rw [ht] at hP1
    have hP := hP1
    have hD := hD1.weaken (fun _ q _ h => hFc q.1 h)
    generalize H1 = H at hP hS ⊢
    have hP : va_P (dC, dI) vwCl (WR a k h0 vi vj vF vG) H := hP
    have hD : va_D A (WR a k h0 vi vj vF vG) := hD
    obtain rfl := hw9
    refine lv_aload_n hx hb dX12_lies_101 rfl (lv_at hl 0 rfl) ?_
    refine lv_iload_n hx hb dX12_lies_102 rfl (lv_at hl 2 rfl) ?_
    refine lv_iload_n hx hb dX12_lies_103 rfl (lv_at hl 3 rfl) ?_
    have hFc := allFree hD hS hA
    refine va_calli (va_runV (As := [.int (nI kn), .int (nI cn)]) (rest := [.int (nI (30 + rn * (C + 1) + C)), .int 22, .ref h0]) ⟨hx, hb, hml, hown, hts⟩ (r_X12_at l dC dI a k h0 vi vj vF vG kn cn C (by first | assumption | decide | omega | rfl) H.size) (cwV 2 hts gwsRX12_lies_0 rfl rfl rfl (by decide +kernel) ⟨by decide +kernel, by decide +kernel⟩) ⟨fun a U g mk q => by obtain ⟨q0, q1, qP, qK, qD⟩ := q; exact ⟨q0, q1, qP, va_K.moved (u := U) (U := U.calling g mk a) (Vm.Alike.refl U.vm) qK, qD⟩, va_recv hK hP (ci := 12) (q0 := 0) rfl rfl, fun U hU9 hW => ⟨rfl, by rw [hU9], by rw [hU9]; exact hP, va_K.moved hW.alike hK, hD.weaken (fun _ _ _ _ => trivial)⟩⟩ rfl rfl hl.1 rfl (lv_room (Nat.le_of_ble_eq_true rfl)) dX12_lies_104 ⟨by decide +kernel, by decide +kernel⟩) hS (fun q _ h => hFc q h) hFc (fun r104 u t9_ H1 locs ht hvm hw9 hB9 hz1 hk1 hS => ?_)
    obtain ⟨hP1, hD1⟩ := hB9
    rw [ht] at hP1
    have hP := hP1
    have hD := hD1.weaken (fun _ q _ h => hFc q.1 h)
    generalize H1 = H at hP hS ⊢
    have hP : va_P (dC, dI) vwCl (WR a k h0 vi vj vF vG) H := hP
    have hD : va_D A (WR a k h0 vi vj vF vG) := hD
    obtain rfl := hw9
    have hFc := allFree hD hS hA
    refine va_callv (va_runV (As := [.int 22, .int (nI (30 + rn * (C + 1) + C)), .int (nI (30 + kn * (C + 1) + cn))]) (rest := []) ⟨hx, hb, hml, hown, hts⟩ (b_X12_times l dC dI a k h0 vi vj vF vG 22 (30 + rn * (C + 1) + C) (30 + kn * (C + 1) + cn) mg hBg (mg (30 + rn * (C + 1) + C)) (mg (30 + kn * (C + 1) + cn)) rfl rfl (by first | assumption | decide | omega | rfl) (by first | assumption | decide | omega | rfl) (by first | assumption | decide | omega | rfl) (by (have hN := hT.n c_4); rw [hN.1 rn (by omega) C (by omega), hN.1 kn (by omega) cn (by omega)]; exact mul_bd (hbd rn (by omega) C (by omega)) (hbd kn (by omega) cn (by omega)) (by decide)) H.size) (cwV 3 hts gwsRX12_lies_1 rfl rfl rfl (by decide +kernel) ⟨by decide +kernel, by decide +kernel⟩) ⟨fun a U g mk q => by obtain ⟨q0, q1, qP, qK, qD⟩ := q; exact ⟨q0, q1, qP, va_K.moved (u := U) (U := U.calling g mk a) (Vm.Alike.refl U.vm) qK, qD⟩, va_recv hK hP (ci := 12) (q0 := 0) rfl rfl, fun U hU9 hW => ⟨rfl, by rw [hU9], by rw [hU9]; exact hP, va_K.moved hW.alike hK, hD.weaken (fun _ _ _ _ => trivial)⟩⟩ rfl rfl hl.1 rfl (lv_room (Nat.le_of_ble_eq_true rfl)) dX12_lies_107 ⟨by decide +kernel, by decide +kernel⟩) hS (fun q _ h => hFc q h) hFc (fun u t9_ H1 locs ht hvm hw9 hB9 hz1 hk1 hS => ?_)
    obtain ⟨g107, gs107⟩ := u
    try dsimp only at hw9 hB9
    obtain ⟨hP1, hD1⟩ := hB9
    rw [ht] at hP1
    have hP := hP1
    have hD := hD1.weaken (fun _ q _ h => hFc q.1 h)
    generalize H1 = H at hP hS ⊢
    have hP : va_P (dC, dI) vwCl (WR a k h0 vi vj (fT vF 0 g107) (fT vG 1 gs107)) H := hP
    have hD : va_D A (WR a k h0 vi vj (fT vF 0 g107) (fT vG 1 gs107)) := hD
    have f107_0 := hw9
    try dsimp only at f107_0
    refine lv_aload_n hx hb dX12_lies_110 rfl (lv_at hl 0 rfl) ?_
    refine lv_bipush (v := 23) hx hb dX12_lies_111 (by decide) ?_
    refine lv_aload_n hx hb dX12_lies_113 rfl (lv_at hl 0 rfl) ?_
    refine lv_iload_n hx hb dX12_lies_114 rfl (lv_at hl 2 rfl) ?_
    refine lv_aload_n hx hb dX12_lies_115 rfl (lv_at hl 0 rfl) ?_
    refine va_get (D := (dC, dI)) (ci := 12) (v := .int (vi 5)) (C := RX12) (T := TX12) (N := 163) (fs := fM (vS a vi vj)) hx hb hts iwsRX12_lies_in12 hown hK hP 0 rfl rfl 5 (by decide) (hts (.fieldLink RX12 396 "OptimaWorksModel" "columns" "I") (by decide +kernel)) (fun _ h9 => h9) rfl dX12_lies_116 ?_
    refine lv_topi (fun y2 hy2 => ?_)
    obtain rfl : (nI C) = y2 := (hy2.trans (hC)).symm
    have hFc := allFree hD hS hA
    refine va_calli (va_runV (As := [.int (nI kn), .int (nI C)]) (rest := [.int 23, .ref h0]) ⟨hx, hb, hml, hown, hts⟩ (r_X12_at l dC dI a k h0 vi vj (fT vF 0 g107) (fT vG 1 gs107) kn C C (by first | assumption | decide | omega | rfl) H.size) (cwV 2 hts gwsRX12_lies_0 rfl rfl rfl (by decide +kernel) ⟨by decide +kernel, by decide +kernel⟩) ⟨fun a U g mk q => by obtain ⟨q0, q1, qP, qK, qD⟩ := q; exact ⟨q0, q1, qP, va_K.moved (u := U) (U := U.calling g mk a) (Vm.Alike.refl U.vm) qK, qD⟩, va_recv hK hP (ci := 12) (q0 := 0) rfl rfl, fun U hU9 hW => ⟨rfl, by rw [hU9], by rw [hU9]; exact hP, va_K.moved hW.alike hK, hD.weaken (fun _ _ _ _ => trivial)⟩⟩ rfl rfl hl.1 rfl (lv_room (Nat.le_of_ble_eq_true rfl)) dX12_lies_119 ⟨by decide +kernel, by decide +kernel⟩) hS (fun q _ h => hFc q h) hFc (fun r119 u t9_ H1 locs ht hvm hw9 hB9 hz1 hk1 hS => ?_)
    obtain ⟨hP1, hD1⟩ := hB9
    rw [ht] at hP1
    have hP := hP1
    have hD := hD1.weaken (fun _ q _ h => hFc q.1 h)
    generalize H1 = H at hP hS ⊢
    have hP : va_P (dC, dI) vwCl (WR a k h0 vi vj (fT vF 0 g107) (fT vG 1 gs107)) H := hP
    have hD : va_D A (WR a k h0 vi vj (fT vF 0 g107) (fT vG 1 gs107)) := hD
    obtain rfl := hw9
    refine lv_aload_n hx hb dX12_lies_122 rfl (lv_at hl 0 rfl) ?_
    refine lv_iload_n hx hb dX12_lies_123 rfl (lv_at hl 1 rfl) ?_
    refine lv_iload_n hx hb dX12_lies_124 rfl (lv_at hl 3 rfl) ?_
    have hFc := allFree hD hS hA
    refine va_calli (va_runV (As := [.int (nI rn), .int (nI cn)]) (rest := [.int (nI (30 + kn * (C + 1) + C)), .int 23, .ref h0]) ⟨hx, hb, hml, hown, hts⟩ (r_X12_at l dC dI a k h0 vi vj (fT vF 0 g107) (fT vG 1 gs107) rn cn C (by first | assumption | decide | omega | rfl) H.size) (cwV 2 hts gwsRX12_lies_0 rfl rfl rfl (by decide +kernel) ⟨by decide +kernel, by decide +kernel⟩) ⟨fun a U g mk q => by obtain ⟨q0, q1, qP, qK, qD⟩ := q; exact ⟨q0, q1, qP, va_K.moved (u := U) (U := U.calling g mk a) (Vm.Alike.refl U.vm) qK, qD⟩, va_recv hK hP (ci := 12) (q0 := 0) rfl rfl, fun U hU9 hW => ⟨rfl, by rw [hU9], by rw [hU9]; exact hP, va_K.moved hW.alike hK, hD.weaken (fun _ _ _ _ => trivial)⟩⟩ rfl rfl hl.1 rfl (lv_room (Nat.le_of_ble_eq_true rfl)) dX12_lies_125 ⟨by decide +kernel, by decide +kernel⟩) hS (fun q _ h => hFc q h) hFc (fun r125 u t9_ H1 locs ht hvm hw9 hB9 hz1 hk1 hS => ?_)
    obtain ⟨hP1, hD1⟩ := hB9
    rw [ht] at hP1
    have hP := hP1
    have hD := hD1.weaken (fun _ q _ h => hFc q.1 h)
    generalize H1 = H at hP hS ⊢
    have hP : va_P (dC, dI) vwCl (WR a k h0 vi vj (fT vF 0 g107) (fT vG 1 gs107)) H := hP
    have hD : va_D A (WR a k h0 vi vj (fT vF 0 g107) (fT vG 1 gs107)) := hD
    obtain rfl := hw9
    have hFc := allFree hD hS hA
    refine va_callv (va_runV (As := [.int 23, .int (nI (30 + kn * (C + 1) + C)), .int (nI (30 + rn * (C + 1) + cn))]) (rest := []) ⟨hx, hb, hml, hown, hts⟩ (b_X12_times l dC dI a k h0 vi vj (fT vF 0 g107) (fT vG 1 gs107) 23 (30 + kn * (C + 1) + C) (30 + rn * (C + 1) + cn) (fT mg 22 ((mg (30 + rn * (C + 1) + C)) * (mg (30 + kn * (C + 1) + cn)))) f107_0 (mg (30 + kn * (C + 1) + C)) (mg (30 + rn * (C + 1) + cn)) (by rw [fT_ne _ _ (by omega)]) (by rw [fT_ne _ _ (by omega)]) (by first | assumption | decide | omega | rfl) (by first | assumption | decide | omega | rfl) (by first | assumption | decide | omega | rfl) (by (have hN := hT.n c_4); rw [hN.1 kn (by omega) C (by omega), hN.1 rn (by omega) cn (by omega)]; exact mul_bd (hbd kn (by omega) C (by omega)) (hbd rn (by omega) cn (by omega)) (by decide)) H.size) (cwV 3 hts gwsRX12_lies_1 rfl rfl rfl (by decide +kernel) ⟨by decide +kernel, by decide +kernel⟩) ⟨fun a U g mk q => by obtain ⟨q0, q1, qP, qK, qD⟩ := q; exact ⟨q0, q1, qP, va_K.moved (u := U) (U := U.calling g mk a) (Vm.Alike.refl U.vm) qK, qD⟩, va_recv hK hP (ci := 12) (q0 := 0) rfl rfl, fun U hU9 hW => ⟨rfl, by rw [hU9], by rw [hU9]; exact hP, va_K.moved hW.alike hK, hD.weaken (fun _ _ _ _ => trivial)⟩⟩ rfl rfl hl.1 rfl (lv_room (Nat.le_of_ble_eq_true rfl)) dX12_lies_128 ⟨by decide +kernel, by decide +kernel⟩) hS (fun q _ h => hFc q h) hFc (fun u t9_ H1 locs ht hvm hw9 hB9 hz1 hk1 hS => ?_)
    obtain ⟨g128, gs128⟩ := u
    try dsimp only at hw9 hB9
    obtain ⟨hP1, hD1⟩ := hB9
    rw [ht] at hP1
    have hP := hP1
    have hD := hD1.weaken (fun _ q _ h => hFc q.1 h)
    generalize H1 = H at hP hS ⊢
    have hP : va_P (dC, dI) vwCl (WR a k h0 vi vj (fT (fT vF 0 g107) 0 g128) (fT (fT vG 1 gs107) 1 gs128)) H := hP
    have hD : va_D A (WR a k h0 vi vj (fT (fT vF 0 g107) 0 g128) (fT (fT vG 1 gs107) 1 gs128)) := hD
    have e9 : fT vF 0 g128 = fT (fT vF 0 g107) 0 g128 := (fT_sm _ _ _ _).symm
    rw [← e9] at hP hD
    clear e9
    have e9 : fT vG 1 gs128 = fT (fT vG 1 gs107) 1 gs128 := (fT_sm _ _ _ _).symm
    rw [← e9] at hP hD
    clear e9
    have hP : va_P (dC, dI) vwCl (WR a k h0 vi vj (fT vF 0 g128) (fT vG 1 gs128)) H := hP
    have hD : va_D A (WR a k h0 vi vj (fT vF 0 g128) (fT vG 1 gs128)) := hD
    have f128_0 := hw9
    try dsimp only at f128_0
    refine lv_aload_n hx hb dX12_lies_131 rfl (lv_at hl 0 rfl) ?_
    refine lv_bipush (v := 22) hx hb dX12_lies_132 (by decide) ?_
    refine lv_bipush (v := 23) hx hb dX12_lies_134 (by decide) ?_
    have hFc := allFree hD hS hA
    refine va_calli (va_runV (As := [.int 22, .int 23]) (rest := []) ⟨hx, hb, hml, hown, hts⟩ (b_X12_compare l dC dI a k h0 vi vj (fT vF 0 g128) (fT vG 1 gs128) 22 23 (fT (fT mg 22 ((mg (30 + rn * (C + 1) + C)) * (mg (30 + kn * (C + 1) + cn)))) 23 ((mg (30 + kn * (C + 1) + C)) * (mg (30 + rn * (C + 1) + cn)))) f128_0 ((mg (30 + rn * (C + 1) + C)) * (mg (30 + kn * (C + 1) + cn))) ((mg (30 + kn * (C + 1) + C)) * (mg (30 + rn * (C + 1) + cn))) (by rw [fT_ne _ _ (by omega), fT_eq]) (by rw [fT_eq]) (by first | assumption | decide | omega | rfl) (by first | assumption | decide | omega | rfl) H.size) (cwV 2 hts gwsRX12_lies_2 rfl rfl rfl (by decide +kernel) ⟨by decide +kernel, by decide +kernel⟩) ⟨fun a U g mk q => by obtain ⟨q0, q1, qP, qK, qD⟩ := q; exact ⟨q0, q1, qP, va_K.moved (u := U) (U := U.calling g mk a) (Vm.Alike.refl U.vm) qK, qD⟩, va_recv hK hP (ci := 12) (q0 := 0) rfl rfl, fun U hU9 hW => ⟨rfl, by rw [hU9], by rw [hU9]; exact hP, va_K.moved hW.alike hK, hD.weaken (fun _ _ _ _ => trivial)⟩⟩ rfl rfl hl.1 rfl (lv_room (Nat.le_of_ble_eq_true rfl)) dX12_lies_136 ⟨by decide +kernel, by decide +kernel⟩) hS (fun q _ h => hFc q h) hFc (fun r136 u t9_ H1 locs ht hvm hw9 hB9 hz1 hk1 hS => ?_)
    obtain ⟨hP1, hD1⟩ := hB9
    rw [ht] at hP1
    have hP := hP1
    have hD := hD1.weaken (fun _ q _ h => hFc q.1 h)
    generalize H1 = H at hP hS ⊢
    have hP : va_P (dC, dI) vwCl (WR a k h0 vi vj (fT vF 0 g128) (fT vG 1 gs128)) H := hP
    have hD : va_D A (WR a k h0 vi vj (fT vF 0 g128) (fT vG 1 gs128)) := hD
    have f136_0 := hw9
    try dsimp only at f136_0
    refine W.widen (k := 0) (n := 0) (by decide +kernel) (by decide +kernel) ?_
    exact W.iret (v := r136) hx hb hr (fun t9_ ht hW => ⟨⟨r136, (g128, gs128, (fT (fT mg 22 ((mg (30 + rn * (C + 1) + C)) * (mg (30 + kn * (C + 1) + cn)))) 23 ((mg (30 + kn * (C + 1) + C)) * (mg (30 + rn * (C + 1) + cn))))), rfl, by (try dsimp only); (have hN := hT.n c_4); (have q1 := hN.1 rn (by omega) C (by omega)); (have q2 := hN.1 kn (by omega) cn (by omega)); (have q3 := hN.1 kn (by omega) C (by omega)); (have q4 := hN.1 rn (by omega) cn (by omega)); (have f9 := f136_0); rw [q1, q2, q3, q4] at f9; exact ⟨f128_0, fun q h1 h2 => by (rw [fT_ne _ _ (by omega), fT_ne _ _ (by omega)]), f9⟩, by rw [ht]; exact hP, hD⟩, hS.F ht⟩) hS.2.2 dX12_lies_139
  · have t_4 : ¬ ((vi 11)).toInt = 0 := toI_neq c_4 rfl (by decide)
    refine lv_aload_n hx hb dX12_lies_7 rfl (lv_at hl 0 rfl) ?_
    refine va_get (D := (dC, dI)) (ci := 12) (v := .ref (a 7)) (C := RX12) (T := TX12) (N := 163) (fs := fM (vS a vi vj)) hx hb hts iwsRX12_lies_in12 hown hK hP 0 rfl rfl 13 (by decide) (hts (.fieldLink RX12 33 "OptimaWorksModel" "fast" "[J") (by decide +kernel)) (fun _ h9 => h9) rfl dX12_lies_8 ?_
    refine lv_aload_n hx hb dX12_lies_11 rfl (lv_at hl 0 rfl) ?_
    refine lv_iload_n hx hb dX12_lies_12 rfl (lv_at hl 1 rfl) ?_
    refine lv_aload_n hx hb dX12_lies_13 rfl (lv_at hl 0 rfl) ?_
    refine va_get (D := (dC, dI)) (ci := 12) (v := .int (vi 5)) (C := RX12) (T := TX12) (N := 163) (fs := fM (vS a vi vj)) hx hb hts iwsRX12_lies_in12 hown hK hP 0 rfl rfl 5 (by decide) (hts (.fieldLink RX12 396 "OptimaWorksModel" "columns" "I") (by decide +kernel)) (fun _ h9 => h9) rfl dX12_lies_14 ?_
    refine lv_topi (fun y3 hy3 => ?_)
    obtain rfl : (nI C) = y3 := (hy3.trans (hC)).symm
    have hFc := allFree hD hS hA
    refine va_calli (va_runV (As := [.int (nI rn), .int (nI C)]) (rest := [.ref (a 7)]) ⟨hx, hb, hml, hown, hts⟩ (r_X12_place1 l dC dI a k h0 vi vj vF vG rn C C (by first | assumption | decide | omega | rfl) s.heap.size) (cwV 2 hts gwsRX12_lies_3 rfl rfl rfl (by decide +kernel) ⟨by decide +kernel, by decide +kernel⟩) ⟨fun a U g mk q => by obtain ⟨q0, q1, qP, qK, qD⟩ := q; exact ⟨q0, q1, qP, va_K.moved (u := U) (U := U.calling g mk a) (Vm.Alike.refl U.vm) qK, qD⟩, va_recv hK hP (ci := 12) (q0 := 0) rfl rfl, fun U hU9 hW => ⟨rfl, by rw [hU9], by rw [hU9]; exact hP, va_K.moved hW.alike hK, hD.weaken (fun _ _ _ _ => trivial)⟩⟩ rfl rfl hl.1 rfl (lv_room (Nat.le_of_ble_eq_true rfl)) dX12_lies_17 ⟨by decide +kernel, by decide +kernel⟩) hS (fun q _ h => hFc q h) hFc (fun r17 u t9_ H1 locs ht hvm hw9 hB9 hz1 hk1 hS => ?_)
    obtain ⟨hP1, hD1⟩ := hB9
    rw [ht] at hP1
    have hP := hP1
    have hD := hD1.weaken (fun _ q _ h => hFc q.1 h)
    generalize H1 = H at hP hS ⊢
    have hP : va_P (dC, dI) vwCl (WR a k h0 vi vj vF vG) H := hP
    have hD : va_D A (WR a k h0 vi vj vF vG) := hD
    obtain rfl := hw9
    refine va_lald (cA := k 7) (n := 1000) (f := (vG 7)) hx hb hK hP 8 7 (WR_get 7 (by decide)) (TR_get 7 (by decide)) (vp_in_nI (show (rn * (C + 1) + C) < 1000 by omega) (by omega)) dX12_lies_20 ?_
    refine lv_topl (fun y4 hy4 => ?_)
    obtain rfl : ((vG 7) (rn * (C + 1) + C)) = y4 := (hy4.trans (by rw [nI_clamp (by omega)])).symm
    refine lv_aload_n hx hb dX12_lies_21 rfl (lv_at hl 0 rfl) ?_
    refine va_get (D := (dC, dI)) (ci := 12) (v := .ref (a 7)) (C := RX12) (T := TX12) (N := 163) (fs := fM (vS a vi vj)) hx hb hts iwsRX12_lies_in12 hown hK hP 0 rfl rfl 13 (by decide) (hts (.fieldLink RX12 33 "OptimaWorksModel" "fast" "[J") (by decide +kernel)) (fun _ h9 => h9) rfl dX12_lies_22 ?_
    refine lv_aload_n hx hb dX12_lies_25 rfl (lv_at hl 0 rfl) ?_
    refine lv_iload_n hx hb dX12_lies_26 rfl (lv_at hl 2 rfl) ?_
    refine lv_iload_n hx hb dX12_lies_27 rfl (lv_at hl 3 rfl) ?_
    have hFc := allFree hD hS hA
    refine va_calli (va_runV (As := [.int (nI kn), .int (nI cn)]) (rest := [.ref (a 7), .long ((vG 7) (rn * (C + 1) + C))]) ⟨hx, hb, hml, hown, hts⟩ (r_X12_place1 l dC dI a k h0 vi vj vF vG kn cn C (by first | assumption | decide | omega | rfl) H.size) (cwV 2 hts gwsRX12_lies_3 rfl rfl rfl (by decide +kernel) ⟨by decide +kernel, by decide +kernel⟩) ⟨fun a U g mk q => by obtain ⟨q0, q1, qP, qK, qD⟩ := q; exact ⟨q0, q1, qP, va_K.moved (u := U) (U := U.calling g mk a) (Vm.Alike.refl U.vm) qK, qD⟩, va_recv hK hP (ci := 12) (q0 := 0) rfl rfl, fun U hU9 hW => ⟨rfl, by rw [hU9], by rw [hU9]; exact hP, va_K.moved hW.alike hK, hD.weaken (fun _ _ _ _ => trivial)⟩⟩ rfl rfl hl.1 rfl (lv_room (Nat.le_of_ble_eq_true rfl)) dX12_lies_28 ⟨by decide +kernel, by decide +kernel⟩) hS (fun q _ h => hFc q h) hFc (fun r28 u t9_ H1 locs ht hvm hw9 hB9 hz1 hk1 hS => ?_)
    obtain ⟨hP1, hD1⟩ := hB9
    rw [ht] at hP1
    have hP := hP1
    have hD := hD1.weaken (fun _ q _ h => hFc q.1 h)
    generalize H1 = H at hP hS ⊢
    have hP : va_P (dC, dI) vwCl (WR a k h0 vi vj vF vG) H := hP
    have hD : va_D A (WR a k h0 vi vj vF vG) := hD
    obtain rfl := hw9
    refine va_lald (cA := k 7) (n := 1000) (f := (vG 7)) hx hb hK hP 8 7 (WR_get 7 (by decide)) (TR_get 7 (by decide)) (vp_in_nI (show (kn * (C + 1) + cn) < 1000 by omega) (by omega)) dX12_lies_31 ?_
    refine lv_topl (fun y5 hy5 => ?_)
    obtain rfl : ((vG 7) (kn * (C + 1) + cn)) = y5 := (hy5.trans (by rw [nI_clamp (by omega)])).symm
    refine lv_lmul hx hb dX12_lies_32 ?_
    refine lv_lstore hx hb dX12_lies_33 hl (by decide) rfl (fun ls (hl : lv_has ls _ ([(4, .long (((vG 7) (rn * (C + 1) + C)) * ((vG 7) (kn * (C + 1) + cn)))), (0, .ref h0), (1, .int (nI rn)), (2, .int (nI kn)), (3, .int (nI cn))])) => ?_)
    refine lv_aload_n hx hb dX12_lies_35 rfl (lv_at hl 1 rfl) ?_
    refine va_get (D := (dC, dI)) (ci := 12) (v := .ref (a 7)) (C := RX12) (T := TX12) (N := 163) (fs := fM (vS a vi vj)) hx hb hts iwsRX12_lies_in12 hown hK hP 0 rfl rfl 13 (by decide) (hts (.fieldLink RX12 33 "OptimaWorksModel" "fast" "[J") (by decide +kernel)) (fun _ h9 => h9) rfl dX12_lies_36 ?_
    refine lv_aload_n hx hb dX12_lies_39 rfl (lv_at hl 1 rfl) ?_
    refine lv_iload_n hx hb dX12_lies_40 rfl (lv_at hl 3 rfl) ?_
    refine lv_aload_n hx hb dX12_lies_41 rfl (lv_at hl 1 rfl) ?_
    refine va_get (D := (dC, dI)) (ci := 12) (v := .int (vi 5)) (C := RX12) (T := TX12) (N := 163) (fs := fM (vS a vi vj)) hx hb hts iwsRX12_lies_in12 hown hK hP 0 rfl rfl 5 (by decide) (hts (.fieldLink RX12 396 "OptimaWorksModel" "columns" "I") (by decide +kernel)) (fun _ h9 => h9) rfl dX12_lies_42 ?_
    refine lv_topi (fun y6 hy6 => ?_)
    obtain rfl : (nI C) = y6 := (hy6.trans (hC)).symm
    have hFc := allFree hD hS hA
    refine va_calli (va_runV (As := [.int (nI kn), .int (nI C)]) (rest := [.ref (a 7)]) ⟨hx, hb, hml, hown, hts⟩ (r_X12_place1 l dC dI a k h0 vi vj vF vG kn C C (by first | assumption | decide | omega | rfl) H.size) (cwV 2 hts gwsRX12_lies_3 rfl rfl rfl (by decide +kernel) ⟨by decide +kernel, by decide +kernel⟩) ⟨fun a U g mk q => by obtain ⟨q0, q1, qP, qK, qD⟩ := q; exact ⟨q0, q1, qP, va_K.moved (u := U) (U := U.calling g mk a) (Vm.Alike.refl U.vm) qK, qD⟩, va_recv hK hP (ci := 12) (q0 := 0) rfl rfl, fun U hU9 hW => ⟨rfl, by rw [hU9], by rw [hU9]; exact hP, va_K.moved hW.alike hK, hD.weaken (fun _ _ _ _ => trivial)⟩⟩ rfl rfl hl.1 rfl (lv_room (Nat.le_of_ble_eq_true rfl)) dX12_lies_45 ⟨by decide +kernel, by decide +kernel⟩) hS (fun q _ h => hFc q h) hFc (fun r45 u t9_ H1 locs ht hvm hw9 hB9 hz1 hk1 hS => ?_)
    obtain ⟨hP1, hD1⟩ := hB9
    rw [ht] at hP1
    have hP := hP1
    have hD := hD1.weaken (fun _ q _ h => hFc q.1 h)
    generalize H1 = H at hP hS ⊢
    have hP : va_P (dC, dI) vwCl (WR a k h0 vi vj vF vG) H := hP
    have hD : va_D A (WR a k h0 vi vj vF vG) := hD
    obtain rfl := hw9
    refine va_lald (cA := k 7) (n := 1000) (f := (vG 7)) hx hb hK hP 8 7 (WR_get 7 (by decide)) (TR_get 7 (by decide)) (vp_in_nI (show (kn * (C + 1) + C) < 1000 by omega) (by omega)) dX12_lies_48 ?_
    refine lv_topl (fun y7 hy7 => ?_)
    obtain rfl : ((vG 7) (kn * (C + 1) + C)) = y7 := (hy7.trans (by rw [nI_clamp (by omega)])).symm
    refine lv_aload_n hx hb dX12_lies_49 rfl (lv_at hl 1 rfl) ?_
    refine va_get (D := (dC, dI)) (ci := 12) (v := .ref (a 7)) (C := RX12) (T := TX12) (N := 163) (fs := fM (vS a vi vj)) hx hb hts iwsRX12_lies_in12 hown hK hP 0 rfl rfl 13 (by decide) (hts (.fieldLink RX12 33 "OptimaWorksModel" "fast" "[J") (by decide +kernel)) (fun _ h9 => h9) rfl dX12_lies_50 ?_
    refine lv_aload_n hx hb dX12_lies_53 rfl (lv_at hl 1 rfl) ?_
    refine lv_iload_n hx hb dX12_lies_54 rfl (lv_at hl 2 rfl) ?_
    refine lv_iload_n hx hb dX12_lies_55 rfl (lv_at hl 4 rfl) ?_
    have hFc := allFree hD hS hA
    refine va_calli (va_runV (As := [.int (nI rn), .int (nI cn)]) (rest := [.ref (a 7), .long ((vG 7) (kn * (C + 1) + C))]) ⟨hx, hb, hml, hown, hts⟩ (r_X12_place1 l dC dI a k h0 vi vj vF vG rn cn C (by first | assumption | decide | omega | rfl) H.size) (cwV 2 hts gwsRX12_lies_3 rfl rfl rfl (by decide +kernel) ⟨by decide +kernel, by decide +kernel⟩) ⟨fun a U g mk q => by obtain ⟨q0, q1, qP, qK, qD⟩ := q; exact ⟨q0, q1, qP, va_K.moved (u := U) (U := U.calling g mk a) (Vm.Alike.refl U.vm) qK, qD⟩, va_recv hK hP (ci := 12) (q0 := 0) rfl rfl, fun U hU9 hW => ⟨rfl, by rw [hU9], by rw [hU9]; exact hP, va_K.moved hW.alike hK, hD.weaken (fun _ _ _ _ => trivial)⟩⟩ rfl rfl hl.1 rfl (lv_room (Nat.le_of_ble_eq_true rfl)) dX12_lies_56 ⟨by decide +kernel, by decide +kernel⟩) hS (fun q _ h => hFc q h) hFc (fun r56 u t9_ H1 locs ht hvm hw9 hB9 hz1 hk1 hS => ?_)
    obtain ⟨hP1, hD1⟩ := hB9
    rw [ht] at hP1
    have hP := hP1
    have hD := hD1.weaken (fun _ q _ h => hFc q.1 h)
    generalize H1 = H at hP hS ⊢
    have hP : va_P (dC, dI) vwCl (WR a k h0 vi vj vF vG) H := hP
    have hD : va_D A (WR a k h0 vi vj vF vG) := hD
    obtain rfl := hw9
    refine va_lald (cA := k 7) (n := 1000) (f := (vG 7)) hx hb hK hP 8 7 (WR_get 7 (by decide)) (TR_get 7 (by decide)) (vp_in_nI (show (rn * (C + 1) + cn) < 1000 by omega) (by omega)) dX12_lies_59 ?_
    refine lv_topl (fun y8 hy8 => ?_)
    obtain rfl : ((vG 7) (rn * (C + 1) + cn)) = y8 := (hy8.trans (by rw [nI_clamp (by omega)])).symm
    refine lv_lmul hx hb dX12_lies_60 ?_
    refine lv_lstore hx hb dX12_lies_61 hl (by decide) rfl (fun ls (hl : lv_has ls _ ([(6, .long (((vG 7) (kn * (C + 1) + C)) * ((vG 7) (rn * (C + 1) + cn)))), (4, .long (((vG 7) (rn * (C + 1) + C)) * ((vG 7) (kn * (C + 1) + cn)))), (0, .ref h0), (1, .int (nI rn)), (2, .int (nI kn)), (3, .int (nI cn))])) => ?_)
    refine lv_lload hx hb dX12_lies_63 (lv_at hl 1 rfl) ?_
    refine lv_lload hx hb dX12_lies_65 (lv_at hl 0 rfl) ?_
    refine W.lcmp hx hb dX12_lies_67 ?_
    refine lv_if_ge (tgt := 75) hx hb dX12_lies_68 (by decide) (fun c_68 => ?_) (fun c_68 => ?_)
    · have t_68 : ((((vG 7) (rn * (C + 1) + C)) * ((vG 7) (kn * (C + 1) + cn)))).toInt ≥ ((((vG 7) (kn * (C + 1) + C)) * ((vG 7) (rn * (C + 1) + cn)))).toInt := toL_ge c_68 rfl rfl
      refine lv_lload hx hb dX12_lies_75 (lv_at hl 1 rfl) ?_
      refine lv_lload hx hb dX12_lies_77 (lv_at hl 0 rfl) ?_
      refine W.lcmp hx hb dX12_lies_79 ?_
      refine lv_if_le (tgt := 87) hx hb dX12_lies_80 (by decide) (fun c_80 => ?_) (fun c_80 => ?_)
      · have t_80 : ((((vG 7) (rn * (C + 1) + C)) * ((vG 7) (kn * (C + 1) + cn)))).toInt ≤ ((((vG 7) (kn * (C + 1) + C)) * ((vG 7) (rn * (C + 1) + cn)))).toInt := toL_le c_80 rfl rfl
        refine lv_iconst (v := 0) hx hb dX12_lies_87 (by decide) ?_
        refine W.widen (k := 0) (n := 0) (by decide +kernel) (by decide +kernel) ?_
        have e9 : fT vF 0 (vF 0) = vF := fT_id _ _ (rfl)
        have hP : va_P (dC, dI) vwCl (WR a k h0 vi vj (fT vF 0 (vF 0)) vG) H := by rw [e9]; exact hP
        have hD : va_D A (WR a k h0 vi vj (fT vF 0 (vF 0)) vG) := by rw [e9]; exact hD
        clear e9
        have e9 : fT vG 1 (vG 1) = vG := fT_id _ _ (rfl)
        have hP : va_P (dC, dI) vwCl (WR a k h0 vi vj (fT vF 0 (vF 0)) (fT vG 1 (vG 1))) H := by rw [e9]; exact hP
        have hD : va_D A (WR a k h0 vi vj (fT vF 0 (vF 0)) (fT vG 1 (vG 1))) := by rw [e9]; exact hD
        clear e9
        exact W.iret (v := 0) hx hb hr (fun t9_ ht hW => ⟨⟨0, ((vF 0), (vG 1), mg), rfl, by (try dsimp only); (have hQ := (hT.q c_4).2); (have q1 := hQ.2.1 rn (by omega) C (by omega)); (have q1b := hQ.1 (rn * (C + 1) + C) (pl_lt (by omega) (by omega))); (have q2 := hQ.2.1 kn (by omega) cn (by omega)); (have q2b := hQ.1 (kn * (C + 1) + cn) (pl_lt (by omega) (by omega))); (have q3 := hQ.2.1 kn (by omega) C (by omega)); (have q3b := hQ.1 (kn * (C + 1) + C) (pl_lt (by omega) (by omega))); (have q4 := hQ.2.1 rn (by omega) cn (by omega)); (have q4b := hQ.1 (rn * (C + 1) + cn) (pl_lt (by omega) (by omega))); (have m1 := (mulQ q1b q2b).1); (have m2 := (mulQ q3b q4b).1); rw [q1, q2] at m1; rw [q3, q4] at m2; (have z0 : (0 : Int32).toInt = 0 := by decide); (have z1 : (1 : Int32).toInt = 1 := by decide); (have z2 : (-1 : Int32).toInt = -1 := by decide); refine ⟨hBg, fun q h1 h2 => rfl, ?_⟩; omega, by rw [ht]; exact hP, hD⟩, hS.F ht⟩) hS.2.2 dX12_lies_88
      · have t_80 : ¬ ((((vG 7) (rn * (C + 1) + C)) * ((vG 7) (kn * (C + 1) + cn)))).toInt ≤ ((((vG 7) (kn * (C + 1) + C)) * ((vG 7) (rn * (C + 1) + cn)))).toInt := toL_nle c_80 rfl rfl
        refine lv_iconst (v := 1) hx hb dX12_lies_83 (by decide) ?_
        refine lv_goto (tgt := 88) hx hb dX12_lies_84 (by decide) ?_
        refine W.widen (k := 0) (n := 0) (by decide +kernel) (by decide +kernel) ?_
        have e9 : fT vF 0 (vF 0) = vF := fT_id _ _ (rfl)
        have hP : va_P (dC, dI) vwCl (WR a k h0 vi vj (fT vF 0 (vF 0)) vG) H := by rw [e9]; exact hP
        have hD : va_D A (WR a k h0 vi vj (fT vF 0 (vF 0)) vG) := by rw [e9]; exact hD
        clear e9
        have e9 : fT vG 1 (vG 1) = vG := fT_id _ _ (rfl)
        have hP : va_P (dC, dI) vwCl (WR a k h0 vi vj (fT vF 0 (vF 0)) (fT vG 1 (vG 1))) H := by rw [e9]; exact hP
        have hD : va_D A (WR a k h0 vi vj (fT vF 0 (vF 0)) (fT vG 1 (vG 1))) := by rw [e9]; exact hD
        clear e9
        exact W.iret (v := 1) hx hb hr (fun t9_ ht hW => ⟨⟨1, ((vF 0), (vG 1), mg), rfl, by (try dsimp only); (have hQ := (hT.q c_4).2); (have q1 := hQ.2.1 rn (by omega) C (by omega)); (have q1b := hQ.1 (rn * (C + 1) + C) (pl_lt (by omega) (by omega))); (have q2 := hQ.2.1 kn (by omega) cn (by omega)); (have q2b := hQ.1 (kn * (C + 1) + cn) (pl_lt (by omega) (by omega))); (have q3 := hQ.2.1 kn (by omega) C (by omega)); (have q3b := hQ.1 (kn * (C + 1) + C) (pl_lt (by omega) (by omega))); (have q4 := hQ.2.1 rn (by omega) cn (by omega)); (have q4b := hQ.1 (rn * (C + 1) + cn) (pl_lt (by omega) (by omega))); (have m1 := (mulQ q1b q2b).1); (have m2 := (mulQ q3b q4b).1); rw [q1, q2] at m1; rw [q3, q4] at m2; (have z0 : (0 : Int32).toInt = 0 := by decide); (have z1 : (1 : Int32).toInt = 1 := by decide); (have z2 : (-1 : Int32).toInt = -1 := by decide); refine ⟨hBg, fun q h1 h2 => rfl, ?_⟩; omega, by rw [ht]; exact hP, hD⟩, hS.F ht⟩) hS.2.2 dX12_lies_88
    · have t_68 : ¬ ((((vG 7) (rn * (C + 1) + C)) * ((vG 7) (kn * (C + 1) + cn)))).toInt ≥ ((((vG 7) (kn * (C + 1) + C)) * ((vG 7) (rn * (C + 1) + cn)))).toInt := toL_nge c_68 rfl rfl
      refine lv_iconst (v := (-1)) hx hb dX12_lies_71 (by decide) ?_
      refine lv_goto (tgt := 88) hx hb dX12_lies_72 (by decide) ?_
      refine W.widen (k := 0) (n := 0) (by decide +kernel) (by decide +kernel) ?_
      have e9 : fT vF 0 (vF 0) = vF := fT_id _ _ (rfl)
      have hP : va_P (dC, dI) vwCl (WR a k h0 vi vj (fT vF 0 (vF 0)) vG) H := by rw [e9]; exact hP
      have hD : va_D A (WR a k h0 vi vj (fT vF 0 (vF 0)) vG) := by rw [e9]; exact hD
      clear e9
      have e9 : fT vG 1 (vG 1) = vG := fT_id _ _ (rfl)
      have hP : va_P (dC, dI) vwCl (WR a k h0 vi vj (fT vF 0 (vF 0)) (fT vG 1 (vG 1))) H := by rw [e9]; exact hP
      have hD : va_D A (WR a k h0 vi vj (fT vF 0 (vF 0)) (fT vG 1 (vG 1))) := by rw [e9]; exact hD
      clear e9
      exact W.iret (v := (-1)) hx hb hr (fun t9_ ht hW => ⟨⟨(-1), ((vF 0), (vG 1), mg), rfl, by (try dsimp only); (have hQ := (hT.q c_4).2); (have q1 := hQ.2.1 rn (by omega) C (by omega)); (have q1b := hQ.1 (rn * (C + 1) + C) (pl_lt (by omega) (by omega))); (have q2 := hQ.2.1 kn (by omega) cn (by omega)); (have q2b := hQ.1 (kn * (C + 1) + cn) (pl_lt (by omega) (by omega))); (have q3 := hQ.2.1 kn (by omega) C (by omega)); (have q3b := hQ.1 (kn * (C + 1) + C) (pl_lt (by omega) (by omega))); (have q4 := hQ.2.1 rn (by omega) cn (by omega)); (have q4b := hQ.1 (rn * (C + 1) + cn) (pl_lt (by omega) (by omega))); (have m1 := (mulQ q1b q2b).1); (have m2 := (mulQ q3b q4b).1); rw [q1, q2] at m1; rw [q3, q4] at m2; (have z0 : (0 : Int32).toInt = 0 := by decide); (have z1 : (1 : Int32).toInt = 1 := by decide); (have z2 : (-1 : Int32).toInt = -1 := by decide); refine ⟨hBg, fun q h1 h2 => rfl, ?_⟩; omega, by rw [ht]; exact hP, hD⟩, hS.F ht⟩) hS.2.2 dX12_lies_88
theorem dX12_hasten_0 : decode cX12_hasten 0 = .ok (.aload_n 0, 1) := dk_42 (by decide +kernel)
theorem dX12_hasten_1 : decode cX12_hasten 1 = .ok (.iconst 1, 1) := dk_4 (by decide +kernel)
theorem dX12_hasten_2 : decode cX12_hasten 2 = .ok (.putfield 414, 3) := dk_181 (by decide +kernel)
theorem dX12_hasten_5 : decode cX12_hasten 5 = .ok (.aload_n 0, 1) := dk_42 (by decide +kernel)
theorem dX12_hasten_6 : decode cX12_hasten 6 = .ok (.getfield 399, 3) := dk_180 (by decide +kernel)
theorem dX12_hasten_9 : decode cX12_hasten 9 = .ok (.aload_n 0, 1) := dk_42 (by decide +kernel)
theorem dX12_hasten_10 : decode cX12_hasten 10 = .ok (.getfield 402, 3) := dk_180 (by decide +kernel)
theorem dX12_hasten_13 : decode cX12_hasten 13 = .ok (.iadd, 1) := dk_96 (by decide +kernel)
theorem dX12_hasten_14 : decode cX12_hasten 14 = .ok (.aload_n 0, 1) := dk_42 (by decide +kernel)
theorem dX12_hasten_15 : decode cX12_hasten 15 = .ok (.getfield 396, 3) := dk_180 (by decide +kernel)
theorem dX12_hasten_18 : decode cX12_hasten 18 = .ok (.iconst 1, 1) := dk_4 (by decide +kernel)
theorem dX12_hasten_19 : decode cX12_hasten 19 = .ok (.iadd, 1) := dk_96 (by decide +kernel)
theorem dX12_hasten_20 : decode cX12_hasten 20 = .ok (.imul, 1) := dk_104 (by decide +kernel)
theorem dX12_hasten_21 : decode cX12_hasten 21 = .ok (.istore_n 1, 1) := dk_60 (by decide +kernel)
theorem dX12_hasten_22 : decode cX12_hasten 22 = .ok (.iconst 0, 1) := dk_3 (by decide +kernel)
theorem dX12_hasten_23 : decode cX12_hasten 23 = .ok (.istore_n 2, 1) := dk_61 (by decide +kernel)
theorem dX12_hasten_24 : decode cX12_hasten 24 = .ok (.iload_n 2, 1) := dk_28 (by decide +kernel)
theorem dX12_hasten_25 : decode cX12_hasten 25 = .ok (.iload_n 1, 1) := dk_27 (by decide +kernel)
theorem dX12_hasten_26 : decode cX12_hasten 26 = .ok (.if_icmp .ge 65, 3) := dk_162 (by decide +kernel)
theorem dX12_hasten_29 : decode cX12_hasten 29 = .ok (.aload_n 0, 1) := dk_42 (by decide +kernel)
theorem dX12_hasten_30 : decode cX12_hasten 30 = .ok (.getfield 414, 3) := dk_180 (by decide +kernel)
theorem dX12_hasten_33 : decode cX12_hasten 33 = .ok (.ifCond .eq 58, 3) := dk_153 (by decide +kernel)
theorem dX12_hasten_36 : decode cX12_hasten 36 = .ok (.aload_n 0, 1) := dk_42 (by decide +kernel)
theorem dX12_hasten_37 : decode cX12_hasten 37 = .ok (.getfield 33, 3) := dk_180 (by decide +kernel)
theorem dX12_hasten_40 : decode cX12_hasten 40 = .ok (.iload_n 2, 1) := dk_28 (by decide +kernel)
theorem dX12_hasten_41 : decode cX12_hasten 41 = .ok (.aload_n 0, 1) := dk_42 (by decide +kernel)
theorem dX12_hasten_42 : decode cX12_hasten 42 = .ok (.bipush 30, 2) := dk_16 (by decide +kernel)
theorem dX12_hasten_44 : decode cX12_hasten 44 = .ok (.iload_n 2, 1) := dk_28 (by decide +kernel)
theorem dX12_hasten_45 : decode cX12_hasten 45 = .ok (.iadd, 1) := dk_96 (by decide +kernel)
theorem dX12_hasten_46 : decode cX12_hasten 46 = .ok (.invokevirtual 418, 3) := dk_182 (by decide +kernel)
theorem dX12_hasten_49 : decode cX12_hasten 49 = .ok (.lastore, 1) := dk_80 (by decide +kernel)
theorem dX12_hasten_50 : decode cX12_hasten 50 = .ok (.aload_n 0, 1) := dk_42 (by decide +kernel)
theorem dX12_hasten_51 : decode cX12_hasten 51 = .ok (.aload_n 0, 1) := dk_42 (by decide +kernel)
theorem dX12_hasten_52 : decode cX12_hasten 52 = .ok (.getfield 33, 3) := dk_180 (by decide +kernel)
theorem dX12_hasten_55 : decode cX12_hasten 55 = .ok (.iload_n 2, 1) := dk_28 (by decide +kernel)
theorem dX12_hasten_56 : decode cX12_hasten 56 = .ok (.laload, 1) := dk_47 (by decide +kernel)
theorem dX12_hasten_57 : decode cX12_hasten 57 = .ok (.ldc2_w 422, 3) := dk_20 (by decide +kernel)
theorem dX12_hasten_60 : decode cX12_hasten 60 = .ok (.lcmp, 1) := dk_148 (by decide +kernel)
theorem dX12_hasten_61 : decode cX12_hasten 61 = .ok (.ifCond .ge 20, 3) := dk_156 (by decide +kernel)
theorem dX12_hasten_64 : decode cX12_hasten 64 = .ok (.aload_n 0, 1) := dk_42 (by decide +kernel)
theorem dX12_hasten_65 : decode cX12_hasten 65 = .ok (.getfield 33, 3) := dk_180 (by decide +kernel)
theorem dX12_hasten_68 : decode cX12_hasten 68 = .ok (.iload_n 2, 1) := dk_28 (by decide +kernel)
theorem dX12_hasten_69 : decode cX12_hasten 69 = .ok (.laload, 1) := dk_47 (by decide +kernel)
theorem dX12_hasten_70 : decode cX12_hasten 70 = .ok (.ldc2_w 424, 3) := dk_20 (by decide +kernel)
theorem dX12_hasten_73 : decode cX12_hasten 73 = .ok (.lcmp, 1) := dk_148 (by decide +kernel)
theorem dX12_hasten_74 : decode cX12_hasten 74 = .ok (.ifCond .le 7, 3) := dk_158 (by decide +kernel)
theorem dX12_hasten_77 : decode cX12_hasten 77 = .ok (.iconst 1, 1) := dk_4 (by decide +kernel)
theorem dX12_hasten_78 : decode cX12_hasten 78 = .ok (.goto 4, 3) := dk_167 (by decide +kernel)
theorem dX12_hasten_81 : decode cX12_hasten 81 = .ok (.iconst 0, 1) := dk_3 (by decide +kernel)
theorem dX12_hasten_82 : decode cX12_hasten 82 = .ok (.putfield 414, 3) := dk_181 (by decide +kernel)
theorem dX12_hasten_85 : decode cX12_hasten 85 = .ok (.iinc 2 1, 3) := dk_132 (by decide +kernel)
theorem dX12_hasten_88 : decode cX12_hasten 88 = .ok (.goto (-64), 3) := dk_167 (by decide +kernel)
theorem dX12_hasten_91 : decode cX12_hasten 91 = .ok (.aload_n 0, 1) := dk_42 (by decide +kernel)
theorem dX12_hasten_92 : decode cX12_hasten 92 = .ok (.lconst 1, 1) := dk_10 (by decide +kernel)
theorem dX12_hasten_93 : decode cX12_hasten 93 = .ok (.putfield 426, 3) := dk_181 (by decide +kernel)
theorem dX12_hasten_96 : decode cX12_hasten 96 = .ok (.return_, 1) := dk_177 (by decide +kernel)
def wsRX12_hasten : List Cond := .code yX12_hasten cX12_hasten 3 none :: ([.fieldLink RX12 414 "OptimaWorksModel" "quick" "Z", .fieldLink RX12 399 "OptimaWorksModel" "rows" "I", .fieldLink RX12 402 "OptimaWorksModel" "goals" "I", .fieldLink RX12 396 "OptimaWorksModel" "columns" "I", .fieldLink RX12 426 "OptimaWorksModel" "quickDivisor" "J", .fieldLink RX12 33 "OptimaWorksModel" "fast" "[J", .constantLong RX12 422 2147483648, .constantLong RX12 424 (-2147483648)] ++ wsX120 ++ (wsV RX12 418 RX12 yX12_worth wsRX12_worth))
theorem iwsRX12_hasten_in12 : ∀ w ∈ wsX120, w ∈ wsRX12_hasten := fun _ h => List.mem_cons_of_mem _ (List.mem_append_left _ (List.mem_append_right _ h))
theorem gwsRX12_hasten_0 : GoodIn wsRX12_hasten (wsV RX12 418 RX12 yX12_worth wsRX12_worth) := goodIn_sub (fun _ h => List.mem_cons_of_mem _ (List.mem_append_right _ h)) (gdV (by decide +kernel) gdwsRX12_worth)
theorem gdwsRX12_hasten : wsRX12_hasten.all goodWord = true := gdC rfl (gdA (gdA (by decide +kernel : ([.fieldLink RX12 414 "OptimaWorksModel" "quick" "Z", .fieldLink RX12 399 "OptimaWorksModel" "rows" "I", .fieldLink RX12 402 "OptimaWorksModel" "goals" "I", .fieldLink RX12 396 "OptimaWorksModel" "columns" "I", .fieldLink RX12 426 "OptimaWorksModel" "quickDivisor" "J", .fieldLink RX12 33 "OptimaWorksModel" "fast" "[J", .constantLong RX12 422 2147483648, .constantLong RX12 424 (-2147483648)] : List Cond).all goodWord = true) gdwsX120) (gdV (by decide +kernel) gdwsRX12_worth))
set_option maxHeartbeats 4000000 in
set_option maxRecDepth 100000 in
/-- hasten() -/
theorem r_X12_hasten (l : Launch) (dC : Nat → ClassId) (dI : Nat → Nat → Nat) (a : Nat → Nat) (k : Nat → ClassId) (h0 : Nat) (vi : Nat → Int32) (vj : Nat → Int64) (vF : Nat → Nat → Int32) (vG : Nat → Nat → Int64) (C : Nat) (R : Nat) (Gq : Nat) (t : Nat → Nat → Int) (mg : Nat → Int) (hBg : Bg (vF 0) mg) (hC : vi 5 = nI C) (hR : vi 6 = nI R) (hG : vi 7 = nI Gq) (hC45 : 0 < C ∧ C ≤ 45) (hT60 : R + Gq < 60) (hsz : (R + Gq) * (C + 1) ≤ 970) (hN : TabN C (R + Gq) mg t 1) (sz : Nat) : Met l yX12_hasten wsRX12_hasten ({ frames := 2, cells := 0, slots := 0, locals := 45 }) (va_Pc [.ref h0] (fun U => U.heap.size = sz ∧ va_P (dC, dI) vwCl (WR a k h0 vi vj vF vG) U.heap ∧ va_K (dC, dI) vwCl (tX12 k) U ∧ va_D (fun _ => True) (WR a k h0 vi vj vF vG))) (va_Qv (fun (u : (Int32) × (Nat → Int64)) => (Tab (u.1) C (R + Gq) mg (u.2) (1 : Int64) t 1)) (fun (u : (Int32) × (Nat → Int64)) t => va_P (dC, dI) vwCl (WR a k h0 (fT vi 11 (u.1)) (fT vj 12 1) vF (fT vG 7 (u.2))) t.heap ∧ va_D (va_A (WR a k h0 vi vj vF vG) sz) (WR a k h0 (fT vi 11 (u.1)) (fT vj 12 1) vF (fT vG 7 (u.2)))) (va_A (WR a k h0 vi vj vF vG) sz)) 0 0 (va_A (WR a k h0 vi vj vF vG) sz) := by
  refine Met.ofW (cc := cX12_hasten) (maxL := 3) (ret := none) (by decide) rfl ?_
  intro p e s m args below meth c s₁ B hml hv
  obtain ⟨rfl, hsz, hP, hK, hD0⟩ := hv
  have hx := B.exec
  have hb := B.bytes
  have hr := B.returns
  have hts := atoms_spec (ws := wsRX12_hasten) B.pre
  have hown : s.vm.findClass RX12 = some m.cls := findClass_of_methodNamed B.named
  have hlocks := B.notSynchronized
  subst hsz
  have hD := hD0.self (sz := s.heap.size)
  generalize hAe : va_A (WR a k h0 vi vj vF vG) s.heap.size = A at hD ⊢
  have hA : ∀ q : Nat, s.heap.size ≤ q → A q := fun q h => by rw [← hAe]; exact Or.inr h
  have hS : va_S A s.heap s.heap [] := va_S.rf
  have hl := lv_entry ([.ref h0]) (n := 3) (Nat.le_of_ble_eq_true rfl)
  rw [lg_entry_eq]
  generalize (lg_sl ([.ref h0]) ++ List.replicate (3 - (lg_sl ([.ref h0])).length) Slot.unset).toArray = ls at hl ⊢
  have hl : lv_has ls 3 [(0, .ref h0)] := hl
  refine lv_aload_n hx hb dX12_hasten_0 rfl (lv_at hl 0 rfl) ?_
  refine lv_iconst (v := 1) hx hb dX12_hasten_1 (by decide) ?_
  refine va_put (D := (dC, dI)) (ci := 12) (v := .int 1) (ty := .boolean) (C := RX12) (T := TX12) (N := 163) (fs := fM (vS a vi vj)) hx hb hts iwsRX12_hasten_in12 tyX12 tyX12_ok nmX12 hown hK hP hD hS 0 rfl rfl 11 (by decide) (hts (.fieldLink RX12 414 "OptimaWorksModel" "quick" "Z") (by decide +kernel)) (fun _ h9 => h9) rfl (by decide +kernel) rfl rfl (Nat.le_of_ble_eq_true rfl) dX12_hasten_2 (fun H locs hP hD hS => ?_)
  have hP : va_P (dC, dI) vwCl (WR a k h0 (fT vi 11 1) vj vF vG) H := by rw [← WR_i 11 _ rfl]; exact hP
  have hD : va_D A (WR a k h0 (fT vi 11 1) vj vF vG) := by rw [← WR_i 11 _ rfl]; exact hD
  refine lv_aload_n hx hb dX12_hasten_5 rfl (lv_at hl 0 rfl) ?_
  refine va_get (D := (dC, dI)) (ci := 12) (v := .int (vi 6)) (C := RX12) (T := TX12) (N := 163) (fs := fM (vS a (fT vi 11 1) vj)) hx hb hts iwsRX12_hasten_in12 hown hK hP 0 rfl rfl 6 (by decide) (hts (.fieldLink RX12 399 "OptimaWorksModel" "rows" "I") (by decide +kernel)) (fun _ h9 => h9) rfl dX12_hasten_6 ?_
  refine lv_topi (fun y1 hy1 => ?_)
  obtain rfl : (nI R) = y1 := (hy1.trans (hR)).symm
  refine lv_aload_n hx hb dX12_hasten_9 rfl (lv_at hl 0 rfl) ?_
  refine va_get (D := (dC, dI)) (ci := 12) (v := .int (vi 7)) (C := RX12) (T := TX12) (N := 163) (fs := fM (vS a (fT vi 11 1) vj)) hx hb hts iwsRX12_hasten_in12 hown hK hP 0 rfl rfl 7 (by decide) (hts (.fieldLink RX12 402 "OptimaWorksModel" "goals" "I") (by decide +kernel)) (fun _ h9 => h9) rfl dX12_hasten_10 ?_
  refine lv_topi (fun y2 hy2 => ?_)
  obtain rfl : (nI Gq) = y2 := (hy2.trans (hG)).symm
  refine lv_iadd hx hb dX12_hasten_13 ?_
  refine lv_topi (fun y3 hy3 => ?_)
  obtain rfl : (nI (R + Gq)) = y3 := (hy3.trans (nI_add R Gq)).symm
  refine lv_aload_n hx hb dX12_hasten_14 rfl (lv_at hl 0 rfl) ?_
  refine va_get (D := (dC, dI)) (ci := 12) (v := .int (vi 5)) (C := RX12) (T := TX12) (N := 163) (fs := fM (vS a (fT vi 11 1) vj)) hx hb hts iwsRX12_hasten_in12 hown hK hP 0 rfl rfl 5 (by decide) (hts (.fieldLink RX12 396 "OptimaWorksModel" "columns" "I") (by decide +kernel)) (fun _ h9 => h9) rfl dX12_hasten_15 ?_
  refine lv_topi (fun y4 hy4 => ?_)
  obtain rfl : (nI C) = y4 := (hy4.trans (hC)).symm
  refine lv_iconst (v := 1) hx hb dX12_hasten_18 (by decide) ?_
  refine lv_iadd hx hb dX12_hasten_19 ?_
  refine lv_topi (fun y5 hy5 => ?_)
  obtain rfl : (nI (C + 1)) = y5 := (hy5.trans (nI_add C 1)).symm
  refine lv_imul hx hb dX12_hasten_20 ?_
  refine lv_topi (fun y6 hy6 => ?_)
  obtain rfl : (nI ((R + Gq) * (C + 1))) = y6 := (hy6.trans (pk_mul (R + Gq) (C + 1))).symm
  refine lv_istore_n hx hb dX12_hasten_21 rfl hl (by decide) rfl (fun ls (hl : lv_has ls _ ([(1, .int (nI ((R + Gq) * (C + 1)))), (0, .ref h0)])) => ?_)
  refine lv_iconst (v := 0) hx hb dX12_hasten_22 (by decide) ?_
  refine lv_istore_n hx hb dX12_hasten_23 rfl hl (by decide) rfl (fun ls (hl : lv_has ls _ ([(2, .int 0), (1, .int (nI ((R + Gq) * (C + 1)))), (0, .ref h0)])) => ?_)
  have e9 : fT vG 7 (vG 7) = vG := by funext q9; by_cases h9_7 : q9 = 7; (subst h9_7; exact (fT_eq _ _ _).trans (Eq.trans (by first | rfl | assumption | (symm; assumption) | (subst_vars; rfl)) (Eq.refl _).symm)); exact (fT_ne _ _ h9_7).trans (Eq.refl _).symm
  have hP : va_P (dC, dI) vwCl (WR a k h0 (fT vi 11 1) vj vF (fT vG 7 (vG 7))) H := by rw [e9]; exact hP
  have hD : va_D A (WR a k h0 (fT vi 11 1) vj vF (fT vG 7 (vG 7))) := by rw [e9]; exact hD
  clear e9
  have hl : lv_has _ _ ([(2, .int (nI 0)), (0, .ref h0), (1, .int (nI ((R + Gq) * (C + 1))))]) := lv_sub hl [0, 2, 1] rfl
  refine (fun (loop : ∀ (n9 : Nat) (i : Nat) (qk : Int32) (F : Nat → Int64) (H : Heap) (locs : List Loc) (ls : Array Slot), (i ≤ (R + Gq) * (C + 1)) → ((qk = 1 ∧ ∀ p, p < i → (F p).toInt = mg (30 + p) ∧ -2147483648 < mg (30 + p) ∧ mg (30 + p) < 2147483648) ∨ qk = 0) →  ((R + Gq) * (C + 1) < i + n9) → va_P (dC, dI) vwCl (WR a k h0 (fT vi 11 qk) vj vF (fT vG 7 F)) H → va_D A (WR a k h0 (fT vi 11 qk) vj vF (fT vG 7 F)) → va_S A s.heap H locs → lv_has ls 3 [(2, .int (nI i)), (0, .ref h0), (1, .int (nI ((R + Gq) * (C + 1))))] → W p l e _ s m _ below meth c H locs 0 0 _ (F0 m 24 ls [])) => loop ((R + Gq) * (C + 1) + 1) 0 1 (vG 7) _ _ _ (by omega) (Or.inl ⟨rfl, fun p hp => absurd hp (by omega)⟩) (by omega) hP hD hS hl) ?_
  intro n9
  induction n9 with
  | zero => intro i qk F H locs ls hi hq hf9; exact False.elim (by omega)
  | succ n9 ih24 =>
    intro i qk F H locs ls hi hq hf24 hP hD hS hl
    refine lv_iload_n hx hb dX12_hasten_24 rfl (lv_at hl 0 rfl) ?_
    refine lv_iload_n hx hb dX12_hasten_25 rfl (lv_at hl 2 rfl) ?_
    refine lv_icmp_ge (tgt := 91) hx hb dX12_hasten_26 (by decide) (fun c_26 => ?_) (fun c_26 => ?_)
    · have t_26 : ((i : Nat) : Int) ≥ ((((R + Gq) * (C + 1)) : Nat) : Int) := toI_ge c_26 (nI_toInt (by omega)) (nI_toInt (by omega))
      refine lv_aload_n hx hb dX12_hasten_91 rfl (lv_at hl 1 rfl) ?_
      refine lv_lconst (v := 1) hx hb dX12_hasten_92 (by decide) ?_
      refine va_put (D := (dC, dI)) (ci := 12) (v := .long 1) (ty := .long) (C := RX12) (T := TX12) (N := 163) (fs := fM (vS a (fT vi 11 qk) vj)) hx hb hts iwsRX12_hasten_in12 tyX12 tyX12_ok nmX12 hown hK hP hD hS 0 rfl rfl 12 (by decide) (hts (.fieldLink RX12 426 "OptimaWorksModel" "quickDivisor" "J") (by decide +kernel)) (fun _ h9 => h9) rfl (by decide +kernel) rfl rfl (Nat.le_of_ble_eq_true rfl) dX12_hasten_93 (fun H locs hP hD hS => ?_)
      have hP : va_P (dC, dI) vwCl (WR a k h0 (fT vi 11 qk) (fT vj 12 1) vF (fT vG 7 F)) H := by rw [← WR_l 12 _ rfl]; exact hP
      have hD : va_D A (WR a k h0 (fT vi 11 qk) (fT vj 12 1) vF (fT vG 7 F)) := by rw [← WR_l 12 _ rfl]; exact hD
      refine W.widen (k := 0) (n := 0) (by decide +kernel) (by decide +kernel) ?_
      exact W.vret hx hb hr (fun t9_ ht hW => ⟨⟨(qk, F), rfl, by (try dsimp only); rcases hq with ⟨h1, h2⟩ | h1; (exact Or.inr ⟨h1, fun p hp => by (have h3 := h2 p (by omega)); omega, fun i2 hi2 j2 hj2 => by (have h3 := h2 (i2 * (C + 1) + j2) (by (have := pl_lt hi2 hj2); omega)); rw [h3.1, ← Nat.add_assoc]; exact hN.1 i2 hi2 j2 hj2, by decide, by decide⟩); (exact Or.inl ⟨h1, hN⟩), by rw [ht]; exact hP, hD⟩, hS.F ht⟩) hS.2.2 dX12_hasten_96
    · have t_26 : ¬ ((i : Nat) : Int) ≥ ((((R + Gq) * (C + 1)) : Nat) : Int) := toI_nge c_26 (nI_toInt (by omega)) (nI_toInt (by omega))
      refine lv_aload_n hx hb dX12_hasten_29 rfl (lv_at hl 1 rfl) ?_
      refine va_get (D := (dC, dI)) (ci := 12) (v := .int qk) (C := RX12) (T := TX12) (N := 163) (fs := fM (vS a (fT vi 11 qk) vj)) hx hb hts iwsRX12_hasten_in12 hown hK hP 0 rfl rfl 11 (by decide) (hts (.fieldLink RX12 414 "OptimaWorksModel" "quick" "Z") (by decide +kernel)) (fun _ h9 => h9) rfl dX12_hasten_30 ?_
      refine lv_if_eq (tgt := 91) hx hb dX12_hasten_33 (by decide) (fun c_33 => ?_) (fun c_33 => ?_)
      · have t_33 : (qk).toInt = 0 := toI_eq c_33 rfl (by decide)
        refine lv_aload_n hx hb dX12_hasten_91 rfl (lv_at hl 1 rfl) ?_
        refine lv_lconst (v := 1) hx hb dX12_hasten_92 (by decide) ?_
        refine va_put (D := (dC, dI)) (ci := 12) (v := .long 1) (ty := .long) (C := RX12) (T := TX12) (N := 163) (fs := fM (vS a (fT vi 11 qk) vj)) hx hb hts iwsRX12_hasten_in12 tyX12 tyX12_ok nmX12 hown hK hP hD hS 0 rfl rfl 12 (by decide) (hts (.fieldLink RX12 426 "OptimaWorksModel" "quickDivisor" "J") (by decide +kernel)) (fun _ h9 => h9) rfl (by decide +kernel) rfl rfl (Nat.le_of_ble_eq_true rfl) dX12_hasten_93 (fun H locs hP hD hS => ?_)
        have hP : va_P (dC, dI) vwCl (WR a k h0 (fT vi 11 qk) (fT vj 12 1) vF (fT vG 7 F)) H := by rw [← WR_l 12 _ rfl]; exact hP
        have hD : va_D A (WR a k h0 (fT vi 11 qk) (fT vj 12 1) vF (fT vG 7 F)) := by rw [← WR_l 12 _ rfl]; exact hD
        refine W.widen (k := 0) (n := 0) (by decide +kernel) (by decide +kernel) ?_
        exact W.vret hx hb hr (fun t9_ ht hW => ⟨⟨(qk, F), rfl, by (try dsimp only); exact Or.inl ⟨c_33, hN⟩, by rw [ht]; exact hP, hD⟩, hS.F ht⟩) hS.2.2 dX12_hasten_96
      · have t_33 : ¬ (qk).toInt = 0 := toI_neq c_33 rfl (by decide)
        refine lv_aload_n hx hb dX12_hasten_36 rfl (lv_at hl 1 rfl) ?_
        refine va_get (D := (dC, dI)) (ci := 12) (v := .ref (a 7)) (C := RX12) (T := TX12) (N := 163) (fs := fM (vS a (fT vi 11 qk) vj)) hx hb hts iwsRX12_hasten_in12 hown hK hP 0 rfl rfl 13 (by decide) (hts (.fieldLink RX12 33 "OptimaWorksModel" "fast" "[J") (by decide +kernel)) (fun _ h9 => h9) rfl dX12_hasten_37 ?_
        refine lv_iload_n hx hb dX12_hasten_40 rfl (lv_at hl 0 rfl) ?_
        refine lv_aload_n hx hb dX12_hasten_41 rfl (lv_at hl 1 rfl) ?_
        refine lv_bipush (v := 30) hx hb dX12_hasten_42 (by decide) ?_
        refine lv_iload_n hx hb dX12_hasten_44 rfl (lv_at hl 0 rfl) ?_
        refine lv_iadd hx hb dX12_hasten_45 ?_
        refine lv_topi (fun y7 hy7 => ?_)
        obtain rfl : (nI (30 + i)) = y7 := (hy7.trans (nI_add 30 i)).symm
        have hFc := allFree hD hS hA
        refine va_calll (va_runV (As := [.int (nI (30 + i))]) (rest := [.int (nI i), .ref (a 7)]) ⟨hx, hb, hml, hown, hts⟩ (r_X12_worth l dC dI a k h0 (fT vi 11 qk) vj vF (fT vG 7 F) (30 + i) mg hBg (mg (30 + i)) rfl (by first | assumption | decide | omega | rfl) H.size) (cwV 1 hts gwsRX12_hasten_0 rfl rfl rfl (by decide +kernel) ⟨by decide +kernel, by decide +kernel⟩) ⟨fun a U g mk q => by obtain ⟨q0, q1, qP, qK, qD⟩ := q; exact ⟨q0, q1, qP, va_K.moved (u := U) (U := U.calling g mk a) (Vm.Alike.refl U.vm) qK, qD⟩, va_recv hK hP (ci := 12) (q0 := 0) rfl rfl, fun U hU9 hW => ⟨rfl, by rw [hU9], by rw [hU9]; exact hP, va_K.moved hW.alike hK, hD.weaken (fun _ _ _ _ => trivial)⟩⟩ rfl rfl hl.1 rfl (lv_room (Nat.le_of_ble_eq_true rfl)) dX12_hasten_46 ⟨by decide +kernel, by decide +kernel⟩) hS (fun q _ h => hFc q h) hFc (fun r46 u t9_ H1 locs ht hvm hw9 hB9 hz1 hk1 hS => ?_)
        obtain ⟨hP1, hD1⟩ := hB9
        rw [ht] at hP1
        have hP := hP1
        have hD := hD1.weaken (fun _ q _ h => hFc q.1 h)
        generalize H1 = H at hP hS ⊢
        have hP : va_P (dC, dI) vwCl (WR a k h0 (fT vi 11 qk) vj vF (fT vG 7 F)) H := hP
        have hD : va_D A (WR a k h0 (fT vi 11 qk) vj vF (fT vG 7 F)) := hD
        have f46_0 := hw9
        try dsimp only at f46_0
        refine va_last (cA := k 7) (n := 1000) (f := F) hx hb hK hP hD hS 8 7 (WR_get 7 (by decide)) (TR_get 7 (by decide)) (vp_in_nI (show i < 1000 by omega) (by omega)) dX12_hasten_49 (fun H locs hP hD hS => ?_)
        have e9 : fT vG 7 (vp_updL F ((nI i)).toNatClampNeg r46) = fT (fT vG 7 F) 7 (vp_updL F ((nI i)).toNatClampNeg r46) := (fT_sm _ _ _ _).symm
        have hP : va_P (dC, dI) vwCl (WR a k h0 (fT vi 11 qk) vj vF (fT vG 7 (vp_updL F ((nI i)).toNatClampNeg r46))) H := by rw [e9, ← WR_G 7 (by decide) _ rfl]; exact hP
        have hD : va_D A (WR a k h0 (fT vi 11 qk) vj vF (fT vG 7 (vp_updL F ((nI i)).toNatClampNeg r46))) := by rw [e9, ← WR_G 7 (by decide) _ rfl]; exact hD
        clear e9
        refine lv_aload_n hx hb dX12_hasten_50 rfl (lv_at hl 1 rfl) ?_
        refine lv_aload_n hx hb dX12_hasten_51 rfl (lv_at hl 1 rfl) ?_
        refine va_get (D := (dC, dI)) (ci := 12) (v := .ref (a 7)) (C := RX12) (T := TX12) (N := 163) (fs := fM (vS a (fT vi 11 qk) vj)) hx hb hts iwsRX12_hasten_in12 hown hK hP 0 rfl rfl 13 (by decide) (hts (.fieldLink RX12 33 "OptimaWorksModel" "fast" "[J") (by decide +kernel)) (fun _ h9 => h9) rfl dX12_hasten_52 ?_
        refine lv_iload_n hx hb dX12_hasten_55 rfl (lv_at hl 0 rfl) ?_
        refine va_lald (cA := k 7) (n := 1000) (f := (vp_updL F ((nI i)).toNatClampNeg r46)) hx hb hK hP 8 7 (WR_get 7 (by decide)) (TR_get 7 (by decide)) (vp_in_nI (show i < 1000 by omega) (by omega)) dX12_hasten_56 ?_
        refine lv_topl (fun y8 hy8 => ?_)
        obtain rfl : ((vp_updL F ((nI i)).toNatClampNeg r46) i) = y8 := (hy8.trans (by rw [nI_clamp (by omega)])).symm
        refine lv_topl (fun y9 hy9 => ?_)
        obtain rfl : r46 = y9 := (hy9.trans (by rw [updL_at (by omega), if_pos rfl])).symm
        refine lv_ldc2 (v := 2147483648) hx hb hown (hts (.constantLong RX12 422 2147483648) (by decide +kernel)) dX12_hasten_57 ?_
        refine W.lcmp hx hb dX12_hasten_60 ?_
        refine lv_if_ge (tgt := 81) hx hb dX12_hasten_61 (by decide) (fun c_61 => ?_) (fun c_61 => ?_)
        · have t_61 : (r46).toInt ≥ 2147483648 := toL_ge c_61 rfl (by decide)
          refine lv_iconst (v := 0) hx hb dX12_hasten_81 (by decide) ?_
          refine va_put (D := (dC, dI)) (ci := 12) (v := .int 0) (ty := .boolean) (C := RX12) (T := TX12) (N := 163) (fs := fM (vS a (fT vi 11 qk) vj)) hx hb hts iwsRX12_hasten_in12 tyX12 tyX12_ok nmX12 hown hK hP hD hS 0 rfl rfl 11 (by decide) (hts (.fieldLink RX12 414 "OptimaWorksModel" "quick" "Z") (by decide +kernel)) (fun _ h9 => h9) rfl (by decide +kernel) rfl rfl (Nat.le_of_ble_eq_true rfl) dX12_hasten_82 (fun H locs hP hD hS => ?_)
          have e9 : fT vi 11 0 = fT (fT vi 11 qk) 11 0 := (fT_sm _ _ _ _).symm
          have hP : va_P (dC, dI) vwCl (WR a k h0 (fT vi 11 0) vj vF (fT vG 7 (vp_updL F ((nI i)).toNatClampNeg r46))) H := by rw [e9, ← WR_i 11 _ rfl]; exact hP
          have hD : va_D A (WR a k h0 (fT vi 11 0) vj vF (fT vG 7 (vp_updL F ((nI i)).toNatClampNeg r46))) := by rw [e9, ← WR_i 11 _ rfl]; exact hD
          clear e9
          refine lv_iinc (v := (nI (i + 1))) hx hb dX12_hasten_85 hl (k := 0) rfl (nI_add i 1) (by decide) rfl (fun ls (hl : lv_has ls _ ([(2, .int (nI (i + 1))), (0, .ref h0), (1, .int (nI ((R + Gq) * (C + 1))))])) => ?_)
          refine lv_goto (tgt := 24) hx hb dX12_hasten_88 (by decide) ?_
          have hl : lv_has _ _ ([(2, .int (nI (i + 1))), (0, .ref h0), (1, .int (nI ((R + Gq) * (C + 1))))]) := lv_sub hl [0, 1, 2] rfl
          exact ih24 (i + 1) 0 (vp_updL F ((nI i)).toNatClampNeg r46) _ _ _ (by omega) (Or.inr rfl) (by omega) hP hD hS hl
        · have t_61 : ¬ (r46).toInt ≥ 2147483648 := toL_nge c_61 rfl (by decide)
          refine lv_aload_n hx hb dX12_hasten_64 rfl (lv_at hl 1 rfl) ?_
          refine va_get (D := (dC, dI)) (ci := 12) (v := .ref (a 7)) (C := RX12) (T := TX12) (N := 163) (fs := fM (vS a (fT vi 11 qk) vj)) hx hb hts iwsRX12_hasten_in12 hown hK hP 0 rfl rfl 13 (by decide) (hts (.fieldLink RX12 33 "OptimaWorksModel" "fast" "[J") (by decide +kernel)) (fun _ h9 => h9) rfl dX12_hasten_65 ?_
          refine lv_iload_n hx hb dX12_hasten_68 rfl (lv_at hl 0 rfl) ?_
          refine va_lald (cA := k 7) (n := 1000) (f := (vp_updL F ((nI i)).toNatClampNeg r46)) hx hb hK hP 8 7 (WR_get 7 (by decide)) (TR_get 7 (by decide)) (vp_in_nI (show i < 1000 by omega) (by omega)) dX12_hasten_69 ?_
          refine lv_topl (fun y10 hy10 => ?_)
          obtain rfl : ((vp_updL F ((nI i)).toNatClampNeg r46) i) = y10 := (hy10.trans (by rw [nI_clamp (by omega)])).symm
          refine lv_topl (fun y11 hy11 => ?_)
          obtain rfl : r46 = y11 := (hy11.trans (by rw [updL_at (by omega), if_pos rfl])).symm
          refine lv_ldc2 (v := (-2147483648)) hx hb hown (hts (.constantLong RX12 424 (-2147483648)) (by decide +kernel)) dX12_hasten_70 ?_
          refine W.lcmp hx hb dX12_hasten_73 ?_
          refine lv_if_le (tgt := 81) hx hb dX12_hasten_74 (by decide) (fun c_74 => ?_) (fun c_74 => ?_)
          · have t_74 : (r46).toInt ≤ -2147483648 := toL_le c_74 rfl (by decide)
            refine lv_iconst (v := 0) hx hb dX12_hasten_81 (by decide) ?_
            refine va_put (D := (dC, dI)) (ci := 12) (v := .int 0) (ty := .boolean) (C := RX12) (T := TX12) (N := 163) (fs := fM (vS a (fT vi 11 qk) vj)) hx hb hts iwsRX12_hasten_in12 tyX12 tyX12_ok nmX12 hown hK hP hD hS 0 rfl rfl 11 (by decide) (hts (.fieldLink RX12 414 "OptimaWorksModel" "quick" "Z") (by decide +kernel)) (fun _ h9 => h9) rfl (by decide +kernel) rfl rfl (Nat.le_of_ble_eq_true rfl) dX12_hasten_82 (fun H locs hP hD hS => ?_)
            have e9 : fT vi 11 0 = fT (fT vi 11 qk) 11 0 := (fT_sm _ _ _ _).symm
            have hP : va_P (dC, dI) vwCl (WR a k h0 (fT vi 11 0) vj vF (fT vG 7 (vp_updL F ((nI i)).toNatClampNeg r46))) H := by rw [e9, ← WR_i 11 _ rfl]; exact hP
            have hD : va_D A (WR a k h0 (fT vi 11 0) vj vF (fT vG 7 (vp_updL F ((nI i)).toNatClampNeg r46))) := by rw [e9, ← WR_i 11 _ rfl]; exact hD
            clear e9
            refine lv_iinc (v := (nI (i + 1))) hx hb dX12_hasten_85 hl (k := 0) rfl (nI_add i 1) (by decide) rfl (fun ls (hl : lv_has ls _ ([(2, .int (nI (i + 1))), (0, .ref h0), (1, .int (nI ((R + Gq) * (C + 1))))])) => ?_)
            refine lv_goto (tgt := 24) hx hb dX12_hasten_88 (by decide) ?_
            have hl : lv_has _ _ ([(2, .int (nI (i + 1))), (0, .ref h0), (1, .int (nI ((R + Gq) * (C + 1))))]) := lv_sub hl [0, 1, 2] rfl
            exact ih24 (i + 1) 0 (vp_updL F ((nI i)).toNatClampNeg r46) _ _ _ (by omega) (Or.inr rfl) (by omega) hP hD hS hl
          · have t_74 : ¬ (r46).toInt ≤ -2147483648 := toL_nle c_74 rfl (by decide)
            refine lv_iconst (v := 1) hx hb dX12_hasten_77 (by decide) ?_
            refine lv_goto (tgt := 82) hx hb dX12_hasten_78 (by decide) ?_
            refine va_put (D := (dC, dI)) (ci := 12) (v := .int 1) (ty := .boolean) (C := RX12) (T := TX12) (N := 163) (fs := fM (vS a (fT vi 11 qk) vj)) hx hb hts iwsRX12_hasten_in12 tyX12 tyX12_ok nmX12 hown hK hP hD hS 0 rfl rfl 11 (by decide) (hts (.fieldLink RX12 414 "OptimaWorksModel" "quick" "Z") (by decide +kernel)) (fun _ h9 => h9) rfl (by decide +kernel) rfl rfl (Nat.le_of_ble_eq_true rfl) dX12_hasten_82 (fun H locs hP hD hS => ?_)
            have e9 : fT vi 11 1 = fT (fT vi 11 qk) 11 1 := (fT_sm _ _ _ _).symm
            have hP : va_P (dC, dI) vwCl (WR a k h0 (fT vi 11 1) vj vF (fT vG 7 (vp_updL F ((nI i)).toNatClampNeg r46))) H := by rw [e9, ← WR_i 11 _ rfl]; exact hP
            have hD : va_D A (WR a k h0 (fT vi 11 1) vj vF (fT vG 7 (vp_updL F ((nI i)).toNatClampNeg r46))) := by rw [e9, ← WR_i 11 _ rfl]; exact hD
            clear e9
            refine lv_iinc (v := (nI (i + 1))) hx hb dX12_hasten_85 hl (k := 0) rfl (nI_add i 1) (by decide) rfl (fun ls (hl : lv_has ls _ ([(2, .int (nI (i + 1))), (0, .ref h0), (1, .int (nI ((R + Gq) * (C + 1))))])) => ?_)
            refine lv_goto (tgt := 24) hx hb dX12_hasten_88 (by decide) ?_
            have hl : lv_has _ _ ([(2, .int (nI (i + 1))), (0, .ref h0), (1, .int (nI ((R + Gq) * (C + 1))))]) := lv_sub hl [0, 1, 2] rfl
            exact ih24 (i + 1) 1 (vp_updL F ((nI i)).toNatClampNeg r46) _ _ _ (by omega) (Or.inl ⟨rfl, fun p hp => by rw [updL_at (by omega)]; by_cases e9 : p = i; (rw [if_pos e9, e9]; (have z9 := f46_0); omega); (rw [if_neg e9]; exact (hq.resolve_right (fun h => c_33 h)).2 p (by omega))⟩) (by omega) hP hD hS hl
theorem dX12_spill_0 : decode cX12_spill 0 = .ok (.aload_n 0, 1) := dk_42 (by decide +kernel)
theorem dX12_spill_1 : decode cX12_spill 1 = .ok (.getfield 414, 3) := dk_180 (by decide +kernel)
theorem dX12_spill_4 : decode cX12_spill 4 = .ok (.ifCond .ne 4, 3) := dk_154 (by decide +kernel)
theorem dX12_spill_7 : decode cX12_spill 7 = .ok (.return_, 1) := dk_177 (by decide +kernel)
theorem dX12_spill_8 : decode cX12_spill 8 = .ok (.aload_n 0, 1) := dk_42 (by decide +kernel)
theorem dX12_spill_9 : decode cX12_spill 9 = .ok (.iconst 0, 1) := dk_3 (by decide +kernel)
theorem dX12_spill_10 : decode cX12_spill 10 = .ok (.putfield 414, 3) := dk_181 (by decide +kernel)
theorem dX12_spill_13 : decode cX12_spill 13 = .ok (.aload_n 0, 1) := dk_42 (by decide +kernel)
theorem dX12_spill_14 : decode cX12_spill 14 = .ok (.getfield 399, 3) := dk_180 (by decide +kernel)
theorem dX12_spill_17 : decode cX12_spill 17 = .ok (.aload_n 0, 1) := dk_42 (by decide +kernel)
theorem dX12_spill_18 : decode cX12_spill 18 = .ok (.getfield 402, 3) := dk_180 (by decide +kernel)
theorem dX12_spill_21 : decode cX12_spill 21 = .ok (.iadd, 1) := dk_96 (by decide +kernel)
theorem dX12_spill_22 : decode cX12_spill 22 = .ok (.aload_n 0, 1) := dk_42 (by decide +kernel)
theorem dX12_spill_23 : decode cX12_spill 23 = .ok (.getfield 396, 3) := dk_180 (by decide +kernel)
theorem dX12_spill_26 : decode cX12_spill 26 = .ok (.iconst 1, 1) := dk_4 (by decide +kernel)
theorem dX12_spill_27 : decode cX12_spill 27 = .ok (.iadd, 1) := dk_96 (by decide +kernel)
theorem dX12_spill_28 : decode cX12_spill 28 = .ok (.imul, 1) := dk_104 (by decide +kernel)
theorem dX12_spill_29 : decode cX12_spill 29 = .ok (.istore_n 1, 1) := dk_60 (by decide +kernel)
theorem dX12_spill_30 : decode cX12_spill 30 = .ok (.iconst 0, 1) := dk_3 (by decide +kernel)
theorem dX12_spill_31 : decode cX12_spill 31 = .ok (.istore_n 2, 1) := dk_61 (by decide +kernel)
theorem dX12_spill_32 : decode cX12_spill 32 = .ok (.iload_n 2, 1) := dk_28 (by decide +kernel)
theorem dX12_spill_33 : decode cX12_spill 33 = .ok (.iload_n 1, 1) := dk_27 (by decide +kernel)
theorem dX12_spill_34 : decode cX12_spill 34 = .ok (.if_icmp .ge 23, 3) := dk_162 (by decide +kernel)
theorem dX12_spill_37 : decode cX12_spill 37 = .ok (.aload_n 0, 1) := dk_42 (by decide +kernel)
theorem dX12_spill_38 : decode cX12_spill 38 = .ok (.bipush 30, 2) := dk_16 (by decide +kernel)
theorem dX12_spill_40 : decode cX12_spill 40 = .ok (.iload_n 2, 1) := dk_28 (by decide +kernel)
theorem dX12_spill_41 : decode cX12_spill 41 = .ok (.iadd, 1) := dk_96 (by decide +kernel)
theorem dX12_spill_42 : decode cX12_spill 42 = .ok (.aload_n 0, 1) := dk_42 (by decide +kernel)
theorem dX12_spill_43 : decode cX12_spill 43 = .ok (.getfield 33, 3) := dk_180 (by decide +kernel)
theorem dX12_spill_46 : decode cX12_spill 46 = .ok (.iload_n 2, 1) := dk_28 (by decide +kernel)
theorem dX12_spill_47 : decode cX12_spill 47 = .ok (.laload, 1) := dk_47 (by decide +kernel)
theorem dX12_spill_48 : decode cX12_spill 48 = .ok (.invokevirtual 369, 3) := dk_182 (by decide +kernel)
theorem dX12_spill_51 : decode cX12_spill 51 = .ok (.iinc 2 1, 3) := dk_132 (by decide +kernel)
theorem dX12_spill_54 : decode cX12_spill 54 = .ok (.goto (-22), 3) := dk_167 (by decide +kernel)
theorem dX12_spill_57 : decode cX12_spill 57 = .ok (.aload_n 0, 1) := dk_42 (by decide +kernel)
theorem dX12_spill_58 : decode cX12_spill 58 = .ok (.bipush 20, 2) := dk_16 (by decide +kernel)
theorem dX12_spill_60 : decode cX12_spill 60 = .ok (.aload_n 0, 1) := dk_42 (by decide +kernel)
theorem dX12_spill_61 : decode cX12_spill 61 = .ok (.getfield 426, 3) := dk_180 (by decide +kernel)
theorem dX12_spill_64 : decode cX12_spill 64 = .ok (.invokevirtual 369, 3) := dk_182 (by decide +kernel)
theorem dX12_spill_67 : decode cX12_spill 67 = .ok (.return_, 1) := dk_177 (by decide +kernel)
def wsRX12_spill : List Cond := .code yX12_spill cX12_spill 3 none :: ([.fieldLink RX12 414 "OptimaWorksModel" "quick" "Z", .fieldLink RX12 399 "OptimaWorksModel" "rows" "I", .fieldLink RX12 402 "OptimaWorksModel" "goals" "I", .fieldLink RX12 396 "OptimaWorksModel" "columns" "I", .fieldLink RX12 426 "OptimaWorksModel" "quickDivisor" "J", .fieldLink RX12 33 "OptimaWorksModel" "fast" "[J"] ++ wsX120 ++ (wsV RX12 369 RX12 yX12_put wsRX12_put))
theorem iwsRX12_spill_in12 : ∀ w ∈ wsX120, w ∈ wsRX12_spill := fun _ h => List.mem_cons_of_mem _ (List.mem_append_left _ (List.mem_append_right _ h))
theorem gwsRX12_spill_0 : GoodIn wsRX12_spill (wsV RX12 369 RX12 yX12_put wsRX12_put) := goodIn_sub (fun _ h => List.mem_cons_of_mem _ (List.mem_append_right _ h)) (gdV (by decide +kernel) gdwsRX12_put)
theorem gdwsRX12_spill : wsRX12_spill.all goodWord = true := gdC rfl (gdA (gdA (by decide +kernel : ([.fieldLink RX12 414 "OptimaWorksModel" "quick" "Z", .fieldLink RX12 399 "OptimaWorksModel" "rows" "I", .fieldLink RX12 402 "OptimaWorksModel" "goals" "I", .fieldLink RX12 396 "OptimaWorksModel" "columns" "I", .fieldLink RX12 426 "OptimaWorksModel" "quickDivisor" "J", .fieldLink RX12 33 "OptimaWorksModel" "fast" "[J"] : List Cond).all goodWord = true) gdwsX120) (gdV (by decide +kernel) gdwsRX12_put))
set_option maxHeartbeats 4000000 in
set_option maxRecDepth 100000 in
/-- spill() -/
theorem r_X12_spill (l : Launch) (dC : Nat → ClassId) (dI : Nat → Nat → Nat) (a : Nat → Nat) (k : Nat → ClassId) (h0 : Nat) (vi : Nat → Int32) (vj : Nat → Int64) (vF : Nat → Nat → Int32) (vG : Nat → Nat → Int64) (C : Nat) (R : Nat) (Gq : Nat) (t : Nat → Nat → Int) (D : Int) (mg : Nat → Int) (hBg : Bg (vF 0) mg) (hC : vi 5 = nI C) (hR : vi 6 = nI R) (hG : vi 7 = nI Gq) (hC45 : 0 < C ∧ C ≤ 45) (hT60 : R + Gq < 60) (hsz : (R + Gq) * (C + 1) ≤ 970) (hT : Tab (vi 11) C (R + Gq) mg (vG 7) (vj 12) t D) (hDp : 0 < D) (sz : Nat) : Met l yX12_spill wsRX12_spill ({ frames := 1, cells := 0, slots := 0, locals := 27 }) (va_Pc [.ref h0] (fun U => U.heap.size = sz ∧ va_P (dC, dI) vwCl (WR a k h0 vi vj vF vG) U.heap ∧ va_K (dC, dI) vwCl (tX12 k) U ∧ va_D (fun _ => True) (WR a k h0 vi vj vF vG))) (va_Qv (fun (u : (Nat → Int32) × (Nat → Int)) => (Bg (u.1) (u.2)) ∧ (TabN C (R + Gq) (u.2) t D) ∧ (∀ q, q ≠ 20 → (q < 30 ∨ 30 + (R + Gq) * (C + 1) ≤ q) → (u.2) q = mg q)) (fun (u : (Nat → Int32) × (Nat → Int)) t => va_P (dC, dI) vwCl (WR a k h0 (fT vi 11 0) vj (fT vF 0 (u.1)) vG) t.heap ∧ va_D (va_A (WR a k h0 vi vj vF vG) sz) (WR a k h0 (fT vi 11 0) vj (fT vF 0 (u.1)) vG)) (va_A (WR a k h0 vi vj vF vG) sz)) 0 0 (va_A (WR a k h0 vi vj vF vG) sz) := by
  refine Met.ofW (cc := cX12_spill) (maxL := 3) (ret := none) (by decide) rfl ?_
  intro p e s m args below meth c s₁ B hml hv
  obtain ⟨rfl, hsz, hP, hK, hD0⟩ := hv
  have hx := B.exec
  have hb := B.bytes
  have hr := B.returns
  have hts := atoms_spec (ws := wsRX12_spill) B.pre
  have hown : s.vm.findClass RX12 = some m.cls := findClass_of_methodNamed B.named
  have hlocks := B.notSynchronized
  subst hsz
  have hD := hD0.self (sz := s.heap.size)
  generalize hAe : va_A (WR a k h0 vi vj vF vG) s.heap.size = A at hD ⊢
  have hA : ∀ q : Nat, s.heap.size ≤ q → A q := fun q h => by rw [← hAe]; exact Or.inr h
  have hS : va_S A s.heap s.heap [] := va_S.rf
  have hl := lv_entry ([.ref h0]) (n := 3) (Nat.le_of_ble_eq_true rfl)
  rw [lg_entry_eq]
  generalize (lg_sl ([.ref h0]) ++ List.replicate (3 - (lg_sl ([.ref h0])).length) Slot.unset).toArray = ls at hl ⊢
  have hl : lv_has ls 3 [(0, .ref h0)] := hl
  refine lv_aload_n hx hb dX12_spill_0 rfl (lv_at hl 0 rfl) ?_
  refine va_get (D := (dC, dI)) (ci := 12) (v := .int (vi 11)) (C := RX12) (T := TX12) (N := 163) (fs := fM (vS a vi vj)) hx hb hts iwsRX12_spill_in12 hown hK hP 0 rfl rfl 11 (by decide) (hts (.fieldLink RX12 414 "OptimaWorksModel" "quick" "Z") (by decide +kernel)) (fun _ h9 => h9) rfl dX12_spill_1 ?_
  refine lv_if_ne (tgt := 8) hx hb dX12_spill_4 (by decide) (fun c_4 => ?_) (fun c_4 => ?_)
  · have t_4 : ((vi 11)).toInt ≠ 0 := toI_ne c_4 rfl (by decide)
    have hQ := (hT.q c_4).2
    refine lv_aload_n hx hb dX12_spill_8 rfl (lv_at hl 0 rfl) ?_
    refine lv_iconst (v := 0) hx hb dX12_spill_9 (by decide) ?_
    refine va_put (D := (dC, dI)) (ci := 12) (v := .int 0) (ty := .boolean) (C := RX12) (T := TX12) (N := 163) (fs := fM (vS a vi vj)) hx hb hts iwsRX12_spill_in12 tyX12 tyX12_ok nmX12 hown hK hP hD hS 0 rfl rfl 11 (by decide) (hts (.fieldLink RX12 414 "OptimaWorksModel" "quick" "Z") (by decide +kernel)) (fun _ h9 => h9) rfl (by decide +kernel) rfl rfl (Nat.le_of_ble_eq_true rfl) dX12_spill_10 (fun H locs hP hD hS => ?_)
    have hP : va_P (dC, dI) vwCl (WR a k h0 (fT vi 11 0) vj vF vG) H := by rw [← WR_i 11 _ rfl]; exact hP
    have hD : va_D A (WR a k h0 (fT vi 11 0) vj vF vG) := by rw [← WR_i 11 _ rfl]; exact hD
    refine lv_aload_n hx hb dX12_spill_13 rfl (lv_at hl 0 rfl) ?_
    refine va_get (D := (dC, dI)) (ci := 12) (v := .int (vi 6)) (C := RX12) (T := TX12) (N := 163) (fs := fM (vS a (fT vi 11 0) vj)) hx hb hts iwsRX12_spill_in12 hown hK hP 0 rfl rfl 6 (by decide) (hts (.fieldLink RX12 399 "OptimaWorksModel" "rows" "I") (by decide +kernel)) (fun _ h9 => h9) rfl dX12_spill_14 ?_
    refine lv_topi (fun y1 hy1 => ?_)
    obtain rfl : (nI R) = y1 := (hy1.trans (hR)).symm
    refine lv_aload_n hx hb dX12_spill_17 rfl (lv_at hl 0 rfl) ?_
    refine va_get (D := (dC, dI)) (ci := 12) (v := .int (vi 7)) (C := RX12) (T := TX12) (N := 163) (fs := fM (vS a (fT vi 11 0) vj)) hx hb hts iwsRX12_spill_in12 hown hK hP 0 rfl rfl 7 (by decide) (hts (.fieldLink RX12 402 "OptimaWorksModel" "goals" "I") (by decide +kernel)) (fun _ h9 => h9) rfl dX12_spill_18 ?_
    refine lv_topi (fun y2 hy2 => ?_)
    obtain rfl : (nI Gq) = y2 := (hy2.trans (hG)).symm
    refine lv_iadd hx hb dX12_spill_21 ?_
    refine lv_topi (fun y3 hy3 => ?_)
    obtain rfl : (nI (R + Gq)) = y3 := (hy3.trans (nI_add R Gq)).symm
    refine lv_aload_n hx hb dX12_spill_22 rfl (lv_at hl 0 rfl) ?_
    refine va_get (D := (dC, dI)) (ci := 12) (v := .int (vi 5)) (C := RX12) (T := TX12) (N := 163) (fs := fM (vS a (fT vi 11 0) vj)) hx hb hts iwsRX12_spill_in12 hown hK hP 0 rfl rfl 5 (by decide) (hts (.fieldLink RX12 396 "OptimaWorksModel" "columns" "I") (by decide +kernel)) (fun _ h9 => h9) rfl dX12_spill_23 ?_
    refine lv_topi (fun y4 hy4 => ?_)
    obtain rfl : (nI C) = y4 := (hy4.trans (hC)).symm
    refine lv_iconst (v := 1) hx hb dX12_spill_26 (by decide) ?_
    refine lv_iadd hx hb dX12_spill_27 ?_
    refine lv_topi (fun y5 hy5 => ?_)
    obtain rfl : (nI (C + 1)) = y5 := (hy5.trans (nI_add C 1)).symm
    refine lv_imul hx hb dX12_spill_28 ?_
    refine lv_topi (fun y6 hy6 => ?_)
    obtain rfl : (nI ((R + Gq) * (C + 1))) = y6 := (hy6.trans (pk_mul (R + Gq) (C + 1))).symm
    refine lv_istore_n hx hb dX12_spill_29 rfl hl (by decide) rfl (fun ls (hl : lv_has ls _ ([(1, .int (nI ((R + Gq) * (C + 1)))), (0, .ref h0)])) => ?_)
    refine lv_iconst (v := 0) hx hb dX12_spill_30 (by decide) ?_
    refine lv_istore_n hx hb dX12_spill_31 rfl hl (by decide) rfl (fun ls (hl : lv_has ls _ ([(2, .int 0), (1, .int (nI ((R + Gq) * (C + 1)))), (0, .ref h0)])) => ?_)
    have e9 : fT vF 0 (vF 0) = vF := by funext q9; by_cases h9_0 : q9 = 0; (subst h9_0; exact (fT_eq _ _ _).trans (Eq.trans (by first | rfl | assumption | (symm; assumption) | (subst_vars; rfl)) (Eq.refl _).symm)); exact (fT_ne _ _ h9_0).trans (Eq.refl _).symm
    have hP : va_P (dC, dI) vwCl (WR a k h0 (fT vi 11 0) vj (fT vF 0 (vF 0)) vG) H := by rw [e9]; exact hP
    have hD : va_D A (WR a k h0 (fT vi 11 0) vj (fT vF 0 (vF 0)) vG) := by rw [e9]; exact hD
    clear e9
    have hl : lv_has _ _ ([(2, .int (nI 0)), (0, .ref h0), (1, .int (nI ((R + Gq) * (C + 1))))]) := lv_sub hl [0, 2, 1] rfl
    refine (fun (loop : ∀ (n9 : Nat) (i : Nat) (g : Nat → Int32) (m1 : Nat → Int) (H : Heap) (locs : List Loc) (ls : Array Slot), (Bg g m1) → (i ≤ (R + Gq) * (C + 1)) → (∀ p, p < i → m1 (30 + p) = (vG 7 p).toInt) → (∀ q, (q < 30 ∨ 30 + i ≤ q) → m1 q = mg q) →  ((R + Gq) * (C + 1) < i + n9) → va_P (dC, dI) vwCl (WR a k h0 (fT vi 11 0) vj (fT vF 0 g) vG) H → va_D A (WR a k h0 (fT vi 11 0) vj (fT vF 0 g) vG) → va_S A s.heap H locs → lv_has ls 3 [(2, .int (nI i)), (0, .ref h0), (1, .int (nI ((R + Gq) * (C + 1))))] → W p l e _ s m _ below meth c H locs 0 0 _ (F0 m 32 ls [])) => loop ((R + Gq) * (C + 1) + 1) 0 (vF 0) mg _ _ _ (hBg) (by omega) (fun p hp => absurd hp (by omega)) (fun q hq => rfl) (by omega) hP hD hS hl) ?_
    intro n9
    induction n9 with
    | zero => intro i g m1 H locs ls hB1 hi hz ho hf9; exact False.elim (by omega)
    | succ n9 ih32 =>
      intro i g m1 H locs ls hB1 hi hz ho hf32 hP hD hS hl
      refine lv_iload_n hx hb dX12_spill_32 rfl (lv_at hl 0 rfl) ?_
      refine lv_iload_n hx hb dX12_spill_33 rfl (lv_at hl 2 rfl) ?_
      refine lv_icmp_ge (tgt := 57) hx hb dX12_spill_34 (by decide) (fun c_34 => ?_) (fun c_34 => ?_)
      · have t_34 : ((i : Nat) : Int) ≥ ((((R + Gq) * (C + 1)) : Nat) : Int) := toI_ge c_34 (nI_toInt (by omega)) (nI_toInt (by omega))
        refine lv_aload_n hx hb dX12_spill_57 rfl (lv_at hl 1 rfl) ?_
        refine lv_bipush (v := 20) hx hb dX12_spill_58 (by decide) ?_
        refine lv_aload_n hx hb dX12_spill_60 rfl (lv_at hl 1 rfl) ?_
        refine va_get (D := (dC, dI)) (ci := 12) (v := .long (vj 12)) (C := RX12) (T := TX12) (N := 163) (fs := fM (vS a (fT vi 11 0) vj)) hx hb hts iwsRX12_spill_in12 hown hK hP 0 rfl rfl 12 (by decide) (hts (.fieldLink RX12 426 "OptimaWorksModel" "quickDivisor" "J") (by decide +kernel)) (fun _ h9 => h9) rfl dX12_spill_61 ?_
        have hFc := allFree hD hS hA
        refine va_callv (va_runV (As := [.int 20, .long (vj 12)]) (rest := []) ⟨hx, hb, hml, hown, hts⟩ (b_X12_put l dC dI a k h0 (fT vi 11 0) vj (fT vF 0 g) vG 20 (vj 12) (((vj 12)).toInt) m1 hB1 (by first | assumption | decide | omega | rfl) rfl (by (have h9 := hQ.2.2.1); show -9223372036854775808 < (vj 12).toInt; (have hD9 := hDp); omega) H.size) (cwV 2 hts gwsRX12_spill_0 rfl rfl rfl (by decide +kernel) ⟨by decide +kernel, by decide +kernel⟩) ⟨fun a U g mk q => by obtain ⟨q0, q1, qP, qK, qD⟩ := q; exact ⟨q0, q1, qP, va_K.moved (u := U) (U := U.calling g mk a) (Vm.Alike.refl U.vm) qK, qD⟩, va_recv hK hP (ci := 12) (q0 := 0) rfl rfl, fun U hU9 hW => ⟨rfl, by rw [hU9], by rw [hU9]; exact hP, va_K.moved hW.alike hK, hD.weaken (fun _ _ _ _ => trivial)⟩⟩ rfl rfl hl.1 rfl (lv_room (Nat.le_of_ble_eq_true rfl)) dX12_spill_64 ⟨by decide +kernel, by decide +kernel⟩) hS (fun q _ h => hFc q h) hFc (fun u t9_ H1 locs ht hvm hw9 hB9 hz1 hk1 hS => ?_)
        obtain ⟨g64, hwit64⟩ : ∃ w9, w9 = u := ⟨u, rfl⟩
        subst hwit64
        obtain ⟨hP1, hD1⟩ := hB9
        rw [ht] at hP1
        have hP := hP1
        have hD := hD1.weaken (fun _ q _ h => hFc q.1 h)
        generalize H1 = H at hP hS ⊢
        have hP : va_P (dC, dI) vwCl (WR a k h0 (fT vi 11 0) vj (fT (fT vF 0 g) 0 g64) vG) H := hP
        have hD : va_D A (WR a k h0 (fT vi 11 0) vj (fT (fT vF 0 g) 0 g64) vG) := hD
        have e9 : fT vF 0 g64 = fT (fT vF 0 g) 0 g64 := (fT_sm _ _ _ _).symm
        rw [← e9] at hP hD
        clear e9
        have hP : va_P (dC, dI) vwCl (WR a k h0 (fT vi 11 0) vj (fT vF 0 g64) vG) H := hP
        have hD : va_D A (WR a k h0 (fT vi 11 0) vj (fT vF 0 g64) vG) := hD
        have f64_0 := hw9
        try dsimp only at f64_0
        refine W.widen (k := 0) (n := 0) (by decide +kernel) (by decide +kernel) ?_
        exact W.vret hx hb hr (fun t9_ ht hW => ⟨⟨(g64, (fT m1 20 (((vj 12)).toInt))), rfl, by (try dsimp only); exact ⟨f64_0, ⟨fun i2 hi2 j2 hj2 => by (have h9 := pl_lt hi2 hj2); rw [fT_ne _ _ (by omega), Nat.add_assoc, hz _ (by omega)]; exact hQ.2.1 i2 hi2 j2 hj2, by rw [fT_eq]; exact hQ.2.2.1⟩, fun q h1 h2 => by rw [fT_ne _ _ h1]; exact ho q (by omega)⟩, by rw [ht]; exact hP, hD⟩, hS.F ht⟩) hS.2.2 dX12_spill_67
      · have t_34 : ¬ ((i : Nat) : Int) ≥ ((((R + Gq) * (C + 1)) : Nat) : Int) := toI_nge c_34 (nI_toInt (by omega)) (nI_toInt (by omega))
        refine lv_aload_n hx hb dX12_spill_37 rfl (lv_at hl 1 rfl) ?_
        refine lv_bipush (v := 30) hx hb dX12_spill_38 (by decide) ?_
        refine lv_iload_n hx hb dX12_spill_40 rfl (lv_at hl 0 rfl) ?_
        refine lv_iadd hx hb dX12_spill_41 ?_
        refine lv_topi (fun y7 hy7 => ?_)
        obtain rfl : (nI (30 + i)) = y7 := (hy7.trans (nI_add 30 i)).symm
        refine lv_aload_n hx hb dX12_spill_42 rfl (lv_at hl 1 rfl) ?_
        refine va_get (D := (dC, dI)) (ci := 12) (v := .ref (a 7)) (C := RX12) (T := TX12) (N := 163) (fs := fM (vS a (fT vi 11 0) vj)) hx hb hts iwsRX12_spill_in12 hown hK hP 0 rfl rfl 13 (by decide) (hts (.fieldLink RX12 33 "OptimaWorksModel" "fast" "[J") (by decide +kernel)) (fun _ h9 => h9) rfl dX12_spill_43 ?_
        refine lv_iload_n hx hb dX12_spill_46 rfl (lv_at hl 0 rfl) ?_
        refine va_lald (cA := k 7) (n := 1000) (f := (vG 7)) hx hb hK hP 8 7 (WR_get 7 (by decide)) (TR_get 7 (by decide)) (vp_in_nI (show i < 1000 by omega) (by omega)) dX12_spill_47 ?_
        refine lv_topl (fun y8 hy8 => ?_)
        obtain rfl : ((vG 7) i) = y8 := (hy8.trans (by rw [nI_clamp (by omega)])).symm
        have hFc := allFree hD hS hA
        refine va_callv (va_runV (As := [.int (nI (30 + i)), .long ((vG 7) i)]) (rest := []) ⟨hx, hb, hml, hown, hts⟩ (b_X12_put l dC dI a k h0 (fT vi 11 0) vj (fT vF 0 g) vG (30 + i) ((vG 7) i) ((((vG 7) i)).toInt) m1 hB1 (by first | assumption | decide | omega | rfl) rfl (by (have h9 := hQ.1 i (by omega)); show -9223372036854775808 < (vG 7 i).toInt; omega) H.size) (cwV 2 hts gwsRX12_spill_0 rfl rfl rfl (by decide +kernel) ⟨by decide +kernel, by decide +kernel⟩) ⟨fun a U g mk q => by obtain ⟨q0, q1, qP, qK, qD⟩ := q; exact ⟨q0, q1, qP, va_K.moved (u := U) (U := U.calling g mk a) (Vm.Alike.refl U.vm) qK, qD⟩, va_recv hK hP (ci := 12) (q0 := 0) rfl rfl, fun U hU9 hW => ⟨rfl, by rw [hU9], by rw [hU9]; exact hP, va_K.moved hW.alike hK, hD.weaken (fun _ _ _ _ => trivial)⟩⟩ rfl rfl hl.1 rfl (lv_room (Nat.le_of_ble_eq_true rfl)) dX12_spill_48 ⟨by decide +kernel, by decide +kernel⟩) hS (fun q _ h => hFc q h) hFc (fun u t9_ H1 locs ht hvm hw9 hB9 hz1 hk1 hS => ?_)
        obtain ⟨g48, hwit48⟩ : ∃ w9, w9 = u := ⟨u, rfl⟩
        subst hwit48
        obtain ⟨hP1, hD1⟩ := hB9
        rw [ht] at hP1
        have hP := hP1
        have hD := hD1.weaken (fun _ q _ h => hFc q.1 h)
        generalize H1 = H at hP hS ⊢
        have hP : va_P (dC, dI) vwCl (WR a k h0 (fT vi 11 0) vj (fT (fT vF 0 g) 0 g48) vG) H := hP
        have hD : va_D A (WR a k h0 (fT vi 11 0) vj (fT (fT vF 0 g) 0 g48) vG) := hD
        have e9 : fT vF 0 g48 = fT (fT vF 0 g) 0 g48 := (fT_sm _ _ _ _).symm
        rw [← e9] at hP hD
        clear e9
        have hP : va_P (dC, dI) vwCl (WR a k h0 (fT vi 11 0) vj (fT vF 0 g48) vG) H := hP
        have hD : va_D A (WR a k h0 (fT vi 11 0) vj (fT vF 0 g48) vG) := hD
        have f48_0 := hw9
        try dsimp only at f48_0
        refine lv_iinc (v := (nI (i + 1))) hx hb dX12_spill_51 hl (k := 0) rfl (nI_add i 1) (by decide) rfl (fun ls (hl : lv_has ls _ ([(2, .int (nI (i + 1))), (0, .ref h0), (1, .int (nI ((R + Gq) * (C + 1))))])) => ?_)
        refine lv_goto (tgt := 32) hx hb dX12_spill_54 (by decide) ?_
        have hl : lv_has _ _ ([(2, .int (nI (i + 1))), (0, .ref h0), (1, .int (nI ((R + Gq) * (C + 1))))]) := lv_sub hl [0, 1, 2] rfl
        exact ih32 (i + 1) g48 (fT m1 (30 + i) ((((vG 7) i)).toInt)) _ _ _ (f48_0) (by omega) (fun p hp => by by_cases e9 : p = i; (rw [e9, fT_eq]); (rw [fT_ne _ _ (by omega)]; exact hz p (by omega))) (fun q hq => by (rw [fT_ne _ _ (by omega)]); exact ho q (by omega)) (by omega) hP hD hS hl
  · have t_4 : ((vi 11)).toInt = 0 := toI_nne c_4 rfl (by decide)
    refine W.widen (k := 0) (n := 0) (by decide +kernel) (by decide +kernel) ?_
    have e9 : fT vi 11 0 = vi := by funext q9; by_cases h9_11 : q9 = 11; (subst h9_11; exact (fT_eq _ _ _).trans (Eq.trans (by first | rfl | assumption | (symm; assumption) | (subst_vars; rfl)) (Eq.refl _).symm)); exact (fT_ne _ _ h9_11).trans (Eq.refl _).symm
    have hP : va_P (dC, dI) vwCl (WR a k h0 (fT vi 11 0) vj vF vG) s.heap := by rw [e9]; exact hP
    have hD : va_D A (WR a k h0 (fT vi 11 0) vj vF vG) := by rw [e9]; exact hD
    clear e9
    have e9 : fT vF 0 (vF 0) = vF := fT_id _ _ (rfl)
    have hP : va_P (dC, dI) vwCl (WR a k h0 (fT vi 11 0) vj (fT vF 0 (vF 0)) vG) s.heap := by rw [e9]; exact hP
    have hD : va_D A (WR a k h0 (fT vi 11 0) vj (fT vF 0 (vF 0)) vG) := by rw [e9]; exact hD
    clear e9
    exact W.vret hx hb hr (fun t9_ ht hW => ⟨⟨((vF 0), mg), rfl, by (try dsimp only); exact ⟨hBg, hT.n c_4, fun q h1 h2 => rfl⟩, by rw [ht]; exact hP, hD⟩, hS.F ht⟩) hS.2.2 dX12_spill_7

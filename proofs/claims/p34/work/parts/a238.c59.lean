def wsRmembersOfm : List Cond := .code yX12_membersOf cX12_membersOf 2 (some .int) :: ([.fieldLink RX12 74 "OptimaWorksModel" "setMany" "[I", .fieldLink RX12 131 "OptimaWorksModel" "bindOne" "[I", .fieldLink RX12 134 "OptimaWorksModel" "bindTwo" "[I"] ++ wsX120)
theorem iwsRmembersOfm_in12 : ∀ w ∈ wsX120, w ∈ wsRmembersOfm := fun _ h => List.mem_cons_of_mem _ (List.mem_append_right _ h)
theorem gdwsRmembersOfm : wsRmembersOfm.all goodWord = true := gdC rfl (gdA (by decide +kernel : ([.fieldLink RX12 74 "OptimaWorksModel" "setMany" "[I", .fieldLink RX12 131 "OptimaWorksModel" "bindOne" "[I", .fieldLink RX12 134 "OptimaWorksModel" "bindTwo" "[I"] : List Cond).all goodWord = true) gdwsX120)
set_option maxHeartbeats 4000000 in
set_option maxRecDepth 100000 in
/-- membersOf(b), told -/
theorem r_X12_membersOfm (l : Launch) (dC : Nat → ClassId) (dI : Nat → Nat → Nat) (a : Nat → Nat) (k : Nat → ClassId) (h0 : Nat) (vi : Nat → Int32) (vj : Nat → Int64) (vF : Nat → Nat → Int32) (vG : Nat → Nat → Int64) (bN : Nat) (mB : Nat) (hbN : bN < 900) (hMb : MbO (vF 17) (vF 36) (vF 37) bN mB) (sz : Nat) : Met l yX12_membersOf wsRmembersOfm ({ frames := 0, cells := 0, slots := 0, locals := 0 }) (va_Pc [.ref h0, .int (nI bN)] (fun U => U.heap.size = sz ∧ va_P (dC, dI) vwCl (WR a k h0 vi vj vF vG) U.heap ∧ va_K (dC, dI) vwCl (tX12 k) U ∧ va_D (fun _ => True) (WR a k h0 vi vj vF vG))) (va_Qi (fun (r : Int32) (u : Unit) => r = (nI mB)) (fun (u : Unit) t => va_P (dC, dI) vwCl (WR a k h0 vi vj vF vG) t.heap ∧ va_D (va_A (WR a k h0 vi vj vF vG) sz) (WR a k h0 vi vj vF vG)) (va_A (WR a k h0 vi vj vF vG) sz)) 0 0 (va_A (WR a k h0 vi vj vF vG) sz) := by
  refine Met.ofW (cc := cX12_membersOf) (maxL := 2) (ret := (some .int)) (by decide) rfl ?_
  intro p e s m args below meth c s₁ B hml hv
  obtain ⟨rfl, hsz, hP, hK, hD0⟩ := hv
  have hx := B.exec
  have hb := B.bytes
  have hr := B.returns
  have hts := atoms_spec (ws := wsRmembersOfm) B.pre
  have hown : s.vm.findClass RX12 = some m.cls := findClass_of_methodNamed B.named
  have hlocks := B.notSynchronized
  subst hsz
  have hD := hD0.self (sz := s.heap.size)
  generalize hAe : va_A (WR a k h0 vi vj vF vG) s.heap.size = A at hD ⊢
  have hA : ∀ q : Nat, s.heap.size ≤ q → A q := fun q h => by rw [← hAe]; exact Or.inr h
  have hS : va_S A s.heap s.heap [] := va_S.rf
  have hl := lv_entry ([.ref h0, .int (nI bN)]) (n := 2) (Nat.le_of_ble_eq_true rfl)
  rw [lg_entry_eq]
  generalize (lg_sl ([.ref h0, .int (nI bN)]) ++ List.replicate (2 - (lg_sl ([.ref h0, .int (nI bN)])).length) Slot.unset).toArray = ls at hl ⊢
  have hl : lv_has ls 2 [(0, .ref h0), (1, .int (nI bN))] := hl
  obtain ⟨o1, m1, ho1, eo1, em1, hm2, hmM⟩ := hMb
  refine lv_aload_n hx hb dX12_membersOf_0 rfl (lv_at hl 0 rfl) ?_
  refine va_get (D := (dC, dI)) (ci := 12) (v := .ref (a 17)) (C := RX12) (T := TX12) (N := 163) (fs := fM (vS a vi vj)) hx hb hts iwsRmembersOfm_in12 hown hK hP 0 rfl rfl 40 (by decide) (hts (.fieldLink RX12 74 "OptimaWorksModel" "setMany" "[I") (by decide +kernel)) (fun _ h9 => h9) rfl dX12_membersOf_1 ?_
  refine lv_aload_n hx hb dX12_membersOf_4 rfl (lv_at hl 0 rfl) ?_
  refine va_get (D := (dC, dI)) (ci := 12) (v := .ref (a 36)) (C := RX12) (T := TX12) (N := 163) (fs := fM (vS a vi vj)) hx hb hts iwsRmembersOfm_in12 hown hK hP 0 rfl rfl 61 (by decide) (hts (.fieldLink RX12 131 "OptimaWorksModel" "bindOne" "[I") (by decide +kernel)) (fun _ h9 => h9) rfl dX12_membersOf_5 ?_
  refine lv_iload_n hx hb dX12_membersOf_8 rfl (lv_at hl 1 rfl) ?_
  refine va_iald (cA := k 36) (n := 900) (f := (vF 36)) hx hb hK hP 37 36 (WR_get 36 (by decide)) (TR_get 36 (by decide)) (vp_in_nI (show bN < 900 by omega) (by omega)) dX12_membersOf_9 ?_
  refine lv_topi (fun y1 hy1 => ?_)
  obtain rfl : ((vF 36) bN) = y1 := (hy1.trans (by rw [nI_clamp (by omega)])).symm
  refine lv_topi (fun y2 hy2 => ?_)
  obtain rfl : (nI o1) = y2 := (hy2.trans (eo1)).symm
  refine va_iald (cA := k 17) (n := 44) (f := (vF 17)) hx hb hK hP 18 17 (WR_get 17 (by decide)) (TR_get 17 (by decide)) (vp_in_nI (show o1 < 44 by omega) (by omega)) dX12_membersOf_10 ?_
  refine lv_topi (fun y3 hy3 => ?_)
  obtain rfl : ((vF 17) o1) = y3 := (hy3.trans (by rw [nI_clamp (by omega)])).symm
  refine lv_topi (fun y4 hy4 => ?_)
  obtain rfl : (nI m1) = y4 := (hy4.trans (em1)).symm
  refine lv_aload_n hx hb dX12_membersOf_11 rfl (lv_at hl 0 rfl) ?_
  refine va_get (D := (dC, dI)) (ci := 12) (v := .ref (a 37)) (C := RX12) (T := TX12) (N := 163) (fs := fM (vS a vi vj)) hx hb hts iwsRmembersOfm_in12 hown hK hP 0 rfl rfl 62 (by decide) (hts (.fieldLink RX12 134 "OptimaWorksModel" "bindTwo" "[I") (by decide +kernel)) (fun _ h9 => h9) rfl dX12_membersOf_12 ?_
  refine lv_iload_n hx hb dX12_membersOf_15 rfl (lv_at hl 1 rfl) ?_
  refine va_iald (cA := k 37) (n := 900) (f := (vF 37)) hx hb hK hP 38 37 (WR_get 37 (by decide)) (TR_get 37 (by decide)) (vp_in_nI (show bN < 900 by omega) (by omega)) dX12_membersOf_16 ?_
  refine lv_topi (fun y5 hy5 => ?_)
  obtain rfl : ((vF 37) bN) = y5 := (hy5.trans (by rw [nI_clamp (by omega)])).symm
  refine lv_iconst (v := (-1)) hx hb dX12_membersOf_17 (by decide) ?_
  refine lv_icmp_ne (tgt := 25) hx hb dX12_membersOf_18 (by decide) (fun c_18 => ?_) (fun c_18 => ?_)
  · have t_18 : (((vF 37) bN)).toInt ≠ -1 := toI_ne c_18 rfl (by decide)
    obtain ⟨o2, m2, ho2, eo2, em2, hn2, emB⟩ := hmM.resolve_left (fun h9 => c_18 h9.1)
    have hmm2 : m1 * m2 ≤ 12 * 12 := Nat.mul_le_mul hm2 hn2
    refine lv_aload_n hx hb dX12_membersOf_25 rfl (lv_at hl 0 rfl) ?_
    refine va_get (D := (dC, dI)) (ci := 12) (v := .ref (a 17)) (C := RX12) (T := TX12) (N := 163) (fs := fM (vS a vi vj)) hx hb hts iwsRmembersOfm_in12 hown hK hP 0 rfl rfl 40 (by decide) (hts (.fieldLink RX12 74 "OptimaWorksModel" "setMany" "[I") (by decide +kernel)) (fun _ h9 => h9) rfl dX12_membersOf_26 ?_
    refine lv_aload_n hx hb dX12_membersOf_29 rfl (lv_at hl 0 rfl) ?_
    refine va_get (D := (dC, dI)) (ci := 12) (v := .ref (a 37)) (C := RX12) (T := TX12) (N := 163) (fs := fM (vS a vi vj)) hx hb hts iwsRmembersOfm_in12 hown hK hP 0 rfl rfl 62 (by decide) (hts (.fieldLink RX12 134 "OptimaWorksModel" "bindTwo" "[I") (by decide +kernel)) (fun _ h9 => h9) rfl dX12_membersOf_30 ?_
    refine lv_iload_n hx hb dX12_membersOf_33 rfl (lv_at hl 1 rfl) ?_
    refine va_iald (cA := k 37) (n := 900) (f := (vF 37)) hx hb hK hP 38 37 (WR_get 37 (by decide)) (TR_get 37 (by decide)) (vp_in_nI (show bN < 900 by omega) (by omega)) dX12_membersOf_34 ?_
    refine lv_topi (fun y6 hy6 => ?_)
    obtain rfl : ((vF 37) bN) = y6 := (hy6.trans (by rw [nI_clamp (by omega)])).symm
    refine lv_topi (fun y7 hy7 => ?_)
    obtain rfl : (nI o2) = y7 := (hy7.trans (eo2)).symm
    refine va_iald (cA := k 17) (n := 44) (f := (vF 17)) hx hb hK hP 18 17 (WR_get 17 (by decide)) (TR_get 17 (by decide)) (vp_in_nI (show o2 < 44 by omega) (by omega)) dX12_membersOf_35 ?_
    refine lv_topi (fun y8 hy8 => ?_)
    obtain rfl : ((vF 17) o2) = y8 := (hy8.trans (by rw [nI_clamp (by omega)])).symm
    refine lv_topi (fun y9 hy9 => ?_)
    obtain rfl : (nI m2) = y9 := (hy9.trans (em2)).symm
    refine lv_imul hx hb dX12_membersOf_36 ?_
    refine lv_topi (fun y10 hy10 => ?_)
    obtain rfl : (nI (m1 * m2)) = y10 := (hy10.trans (pk_mul m1 m2)).symm
    refine W.widen (k := 0) (n := 0) (by decide +kernel) (by decide +kernel) ?_
    exact W.iret (v := (nI (m1 * m2))) hx hb hr (fun t9_ ht hW => ⟨⟨(nI (m1 * m2)), (), rfl, by (try dsimp only); exact congrArg nI emB.symm, by rw [ht]; exact hP, hD⟩, hS.F ht⟩) hS.2.2 dX12_membersOf_37
  · have t_18 : (((vF 37) bN)).toInt = -1 := toI_nne c_18 rfl (by decide)
    refine lv_iconst (v := 1) hx hb dX12_membersOf_21 (by decide) ?_
    refine lv_goto (tgt := 36) hx hb dX12_membersOf_22 (by decide) ?_
    refine lv_imul hx hb dX12_membersOf_36 ?_
    refine lv_topi (fun y11 hy11 => ?_)
    obtain rfl : (nI (m1 * 1)) = y11 := (hy11.trans (pk_mul m1 1)).symm
    refine W.widen (k := 0) (n := 0) (by decide +kernel) (by decide +kernel) ?_
    exact W.iret (v := (nI (m1 * 1))) hx hb hr (fun t9_ ht hW => ⟨⟨(nI (m1 * 1)), (), rfl, by (try dsimp only); (obtain ⟨_, rfl⟩ := hmM.resolve_right (fun ⟨o2, _, h8, h9, _⟩ => nI_nm1 (by omega) (h9.symm.trans c_18))); rw [Nat.mul_one], by rw [ht]; exact hP, hD⟩, hS.F ht⟩) hS.2.2 dX12_membersOf_37

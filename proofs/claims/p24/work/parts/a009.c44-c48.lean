section
theorem hd_yX12_link_RX12 : yX12_link.cls = RX12 ∧ yX12_link.cls ≠ "java/lang/invoke/MethodHandle" ∧ yX12_link.cls ≠ "java/lang/invoke/VarHandle" ∧ (parseMethodDescriptor yX12_link.desc).map (fun d => d.parameters.length) = some 2 := by decide +kernel
theorem hd_yX12_tourCost_RX12 : yX12_tourCost.cls = RX12 ∧ yX12_tourCost.cls ≠ "java/lang/invoke/MethodHandle" ∧ yX12_tourCost.cls ≠ "java/lang/invoke/VarHandle" ∧ (parseMethodDescriptor yX12_tourCost.desc).map (fun d => d.parameters.length) = some 1 := by decide +kernel
theorem hd_yX12_nextOrder_RX12 : yX12_nextOrder.cls = RX12 ∧ yX12_nextOrder.cls ≠ "java/lang/invoke/MethodHandle" ∧ yX12_nextOrder.cls ≠ "java/lang/invoke/VarHandle" ∧ (parseMethodDescriptor yX12_nextOrder.desc).map (fun d => d.parameters.length) = some 1 := by decide +kernel
theorem hd_yX12_areEnds_RX12 : yX12_areEnds.cls = RX12 ∧ yX12_areEnds.cls ≠ "java/lang/invoke/MethodHandle" ∧ yX12_areEnds.cls ≠ "java/lang/invoke/VarHandle" ∧ (parseMethodDescriptor yX12_areEnds.desc).map (fun d => d.parameters.length) = some 2 := by decide +kernel
theorem hd_yX12_follows_RX12 : yX12_follows.cls = RX12 ∧ yX12_follows.cls ≠ "java/lang/invoke/MethodHandle" ∧ yX12_follows.cls ≠ "java/lang/invoke/VarHandle" ∧ (parseMethodDescriptor yX12_follows.desc).map (fun d => d.parameters.length) = some 1 := by decide +kernel
theorem dX12_tourCost_0 : decode cX12_tourCost 0 = .ok (.iconst 0, 1) := dk_3 (by decide +kernel)
theorem dX12_tourCost_1 : decode cX12_tourCost 1 = .ok (.istore_n 2, 1) := dk_61 (by decide +kernel)
theorem dX12_tourCost_2 : decode cX12_tourCost 2 = .ok (.iconst 0, 1) := dk_3 (by decide +kernel)
theorem dX12_tourCost_3 : decode cX12_tourCost 3 = .ok (.istore_n 3, 1) := dk_62 (by decide +kernel)
theorem dX12_tourCost_4 : decode cX12_tourCost 4 = .ok (.iload_n 3, 1) := dk_29 (by decide +kernel)
theorem dX12_tourCost_5 : decode cX12_tourCost 5 = .ok (.iload_n 1, 1) := dk_27 (by decide +kernel)
theorem dX12_tourCost_6 : decode cX12_tourCost 6 = .ok (.if_icmp .ge 54, 3) := dk_162 (by decide +kernel)
theorem dX12_tourCost_9 : decode cX12_tourCost 9 = .ok (.aload_n 0, 1) := dk_42 (by decide +kernel)
theorem dX12_tourCost_10 : decode cX12_tourCost 10 = .ok (.aload_n 0, 1) := dk_42 (by decide +kernel)
theorem dX12_tourCost_11 : decode cX12_tourCost 11 = .ok (.getfield 339, 3) := dk_180 (by decide +kernel)
theorem dX12_tourCost_14 : decode cX12_tourCost 14 = .ok (.aload_n 0, 1) := dk_42 (by decide +kernel)
theorem dX12_tourCost_15 : decode cX12_tourCost 15 = .ok (.getfield 342, 3) := dk_180 (by decide +kernel)
theorem dX12_tourCost_18 : decode cX12_tourCost 18 = .ok (.iload_n 3, 1) := dk_29 (by decide +kernel)
theorem dX12_tourCost_19 : decode cX12_tourCost 19 = .ok (.iaload, 1) := dk_46 (by decide +kernel)
theorem dX12_tourCost_20 : decode cX12_tourCost 20 = .ok (.iaload, 1) := dk_46 (by decide +kernel)
theorem dX12_tourCost_21 : decode cX12_tourCost 21 = .ok (.aload_n 0, 1) := dk_42 (by decide +kernel)
theorem dX12_tourCost_22 : decode cX12_tourCost 22 = .ok (.getfield 339, 3) := dk_180 (by decide +kernel)
theorem dX12_tourCost_25 : decode cX12_tourCost 25 = .ok (.aload_n 0, 1) := dk_42 (by decide +kernel)
theorem dX12_tourCost_26 : decode cX12_tourCost 26 = .ok (.getfield 342, 3) := dk_180 (by decide +kernel)
theorem dX12_tourCost_29 : decode cX12_tourCost 29 = .ok (.iload_n 3, 1) := dk_29 (by decide +kernel)
theorem dX12_tourCost_30 : decode cX12_tourCost 30 = .ok (.iconst 1, 1) := dk_4 (by decide +kernel)
theorem dX12_tourCost_31 : decode cX12_tourCost 31 = .ok (.iadd, 1) := dk_96 (by decide +kernel)
theorem dX12_tourCost_32 : decode cX12_tourCost 32 = .ok (.iload_n 1, 1) := dk_27 (by decide +kernel)
theorem dX12_tourCost_33 : decode cX12_tourCost 33 = .ok (.irem, 1) := dk_112 (by decide +kernel)
theorem dX12_tourCost_34 : decode cX12_tourCost 34 = .ok (.iaload, 1) := dk_46 (by decide +kernel)
theorem dX12_tourCost_35 : decode cX12_tourCost 35 = .ok (.iaload, 1) := dk_46 (by decide +kernel)
theorem dX12_tourCost_36 : decode cX12_tourCost 36 = .ok (.invokevirtual 1089, 3) := dk_182 (by decide +kernel)
theorem dX12_tourCost_39 : decode cX12_tourCost 39 = .ok (.istore 4, 2) := dk_54 (by decide +kernel)
theorem dX12_tourCost_41 : decode cX12_tourCost 41 = .ok (.iload 4, 2) := dk_21 (by decide +kernel)
theorem dX12_tourCost_43 : decode cX12_tourCost 43 = .ok (.iconst (-1), 1) := dk_2 (by decide +kernel)
theorem dX12_tourCost_44 : decode cX12_tourCost 44 = .ok (.if_icmp .ne 5, 3) := dk_160 (by decide +kernel)
theorem dX12_tourCost_47 : decode cX12_tourCost 47 = .ok (.iconst (-1), 1) := dk_2 (by decide +kernel)
theorem dX12_tourCost_48 : decode cX12_tourCost 48 = .ok (.ireturn, 1) := dk_172 (by decide +kernel)
theorem dX12_tourCost_49 : decode cX12_tourCost 49 = .ok (.iload_n 2, 1) := dk_28 (by decide +kernel)
theorem dX12_tourCost_50 : decode cX12_tourCost 50 = .ok (.iload 4, 2) := dk_21 (by decide +kernel)
theorem dX12_tourCost_52 : decode cX12_tourCost 52 = .ok (.iadd, 1) := dk_96 (by decide +kernel)
theorem dX12_tourCost_53 : decode cX12_tourCost 53 = .ok (.istore_n 2, 1) := dk_61 (by decide +kernel)
theorem dX12_tourCost_54 : decode cX12_tourCost 54 = .ok (.iinc 3 1, 3) := dk_132 (by decide +kernel)
theorem dX12_tourCost_57 : decode cX12_tourCost 57 = .ok (.goto (-53), 3) := dk_167 (by decide +kernel)
theorem dX12_tourCost_60 : decode cX12_tourCost 60 = .ok (.iload_n 2, 1) := dk_28 (by decide +kernel)
theorem dX12_tourCost_61 : decode cX12_tourCost 61 = .ok (.ireturn, 1) := dk_172 (by decide +kernel)
def wsRX12_tourCost : List Cond := .code yX12_tourCost cX12_tourCost 5 (some .int) :: ([.fieldLink RX12 339 "OptimaWorksModel" "member1" "[I", .fieldLink RX12 342 "OptimaWorksModel" "order" "[I"] ++ wsX120 ++ (wsV RX12 1089 RX12 yX12_link wsRX12_link))
theorem iwsRX12_tourCost_in12 : ∀ w ∈ wsX120, w ∈ wsRX12_tourCost := fun _ h => List.mem_cons_of_mem _ (List.mem_append_left _ (List.mem_append_right _ h))
theorem gwsRX12_tourCost_0 : GoodIn wsRX12_tourCost (wsV RX12 1089 RX12 yX12_link wsRX12_link) := goodIn_sub (fun _ h => List.mem_cons_of_mem _ (List.mem_append_right _ h)) (gdV (by decide +kernel) gdwsRX12_link)
theorem gdwsRX12_tourCost : wsRX12_tourCost.all goodWord = true := gdC rfl (gdA (gdA (by decide +kernel : ([.fieldLink RX12 339 "OptimaWorksModel" "member1" "[I", .fieldLink RX12 342 "OptimaWorksModel" "order" "[I"] : List Cond).all goodWord = true) gdwsX120) (gdV (by decide +kernel) gdwsRX12_link))
theorem hm_r_X12_tourCost_0 : (.fieldLink RX12 339 "OptimaWorksModel" "member1" "[I" : Cond) ∈ wsRX12_tourCost := by decide +kernel
theorem hm_r_X12_tourCost_1 : (.fieldLink RX12 342 "OptimaWorksModel" "order" "[I" : Cond) ∈ wsRX12_tourCost := by decide +kernel
set_option maxHeartbeats 4000000 in
set_option maxRecDepth 100000 in
/-- tourCost(n) -/
theorem r_X12_tourCost (l : Launch) (dC : Nat → ClassId) (dI : Nat → Nat → Nat) (a : Nat → Nat) (k : Nat → ClassId) (h0 : Nat) (vi : Nat → Int32) (vj : Nat → Int64) (vF : Nat → Nat → Int32) (vG : Nat → Nat → Int64) (bb : Nat → Bool) (Kn : Nat) (ar : Nat) (hK2 : 2 ≤ Kn) (hK8 : Kn ≤ 8) (har : vi 150 = nI ar) (har40 : ar ≤ 40) (hAr : ArO (vF 95) (vF 96) (vF 97) (vF 98) ar) (hBo : Bo (vF 105)) (hMb : ∀ j, j < Kn → vF 104 j = nI (tuK bb j)) (hRg : ∀ i, i < Kn → (vF 105 i).toInt < ((Kn : Nat) : Int)) (sz : Nat) : Met l yX12_tourCost wsRX12_tourCost ({ frames := 1, cells := 0, slots := 0, locals := 24 }) (va_Pc [.ref h0, .int (nI Kn)] (fun U => U.heap.size = sz ∧ va_P (dC, dI) vwCl (WR a k h0 vi vj vF vG) U.heap ∧ va_K (dC, dI) vwCl (tX12 k) U ∧ va_D (fun _ => True) (WR a k h0 vi vj vF vG))) (va_Qi (fun (r : Int32) (u : Unit) => ((r.toInt = -1 ∧ ¬ tuC (fun x y => tuL (((ar : Nat) : Int), vF 95, vF 96, vF 97, vF 98) (tuK bb x) (tuK bb y) ar) Kn (tuOf (vF 105)) Kn < 536870912) ∨ (¬ r.toInt = -1 ∧ r.toInt = tuC (fun x y => tuL (((ar : Nat) : Int), vF 95, vF 96, vF 97, vF 98) (tuK bb x) (tuK bb y) ar) Kn (tuOf (vF 105)) Kn ∧ tuC (fun x y => tuL (((ar : Nat) : Int), vF 95, vF 96, vF 97, vF 98) (tuK bb x) (tuK bb y) ar) Kn (tuOf (vF 105)) Kn < 536870912))) (fun (u : Unit) t => va_P (dC, dI) vwCl (WR a k h0 vi vj vF vG) t.heap ∧ va_D (va_A (WR a k h0 vi vj vF vG) sz) (WR a k h0 vi vj vF vG)) (va_A (WR a k h0 vi vj vF vG) sz)) 0 0 (va_A (WR a k h0 vi vj vF vG) sz) := by
  refine Met.ofW (cc := cX12_tourCost) (maxL := 5) (ret := (some .int)) (by decide) rfl ?_
  intro p e s m args below meth c s₁ B hml hv
  obtain ⟨rfl, hsz, hP, hK, hD0⟩ := hv
  have hx := B.exec
  have hb := B.bytes
  have hr := B.returns
  have hts := atoms_spec (ws := wsRX12_tourCost) B.pre
  have hown : s.vm.findClass RX12 = some m.cls := findClass_of_methodNamed B.named
  have hlocks := B.notSynchronized
  subst hsz
  have hD := hD0.self (sz := s.heap.size)
  generalize hAe : va_A (WR a k h0 vi vj vF vG) s.heap.size = A at hD ⊢
  have hA : ∀ q : Nat, s.heap.size ≤ q → A q := fun q h => by rw [← hAe]; exact Or.inr h
  have hS : va_S A s.heap s.heap [] := va_S.rf
  have hl := lv_entry ([.ref h0, .int (nI Kn)]) (n := 5) (Nat.le_of_ble_eq_true rfl)
  rw [lg_entry_eq]
  generalize (lg_sl ([.ref h0, .int (nI Kn)]) ++ List.replicate (5 - (lg_sl ([.ref h0, .int (nI Kn)])).length) Slot.unset).toArray = ls at hl ⊢
  have hl : lv_has ls 5 [(0, .ref h0), (1, .int (nI Kn))] := hl
  have hPP : tuP (fun x y => tuL (((ar : Nat) : Int), vF 95, vF 96, vF 97, vF 98) (tuK bb x) (tuK bb y) ar) := fun x y => tuL_r (ArO.val hAr) _ _ (Int.le_refl _)
  refine lv_iconst (v := 0) hx hb dX12_tourCost_0 (by decide) ?_
  refine lv_istore_n hx hb dX12_tourCost_1 rfl hl (by decide) rfl (fun ls (hl : lv_has ls _ ([(2, .int 0), (0, .ref h0), (1, .int (nI Kn))])) => ?_)
  refine lv_iconst (v := 0) hx hb dX12_tourCost_2 (by decide) ?_
  refine lv_istore_n hx hb dX12_tourCost_3 rfl hl (by decide) rfl (fun ls (hl : lv_has ls _ ([(3, .int 0), (2, .int 0), (0, .ref h0), (1, .int (nI Kn))])) => ?_)
  have hl : lv_has _ _ ([(0, .ref h0), (1, .int (nI Kn)), (2, .int 0), (3, .int (nI 0))]) := lv_sub hl [2, 3, 1, 0] rfl
  refine (fun (loop : ∀ (n9 : Nat) (k5 : Nat) (su : Int32) (H : Heap) (locs : List Loc) (ls : Array Slot), (k5 ≤ Kn) → (tuSu (fun x y => tuL (((ar : Nat) : Int), vF 95, vF 96, vF 97, vF 98) (tuK bb x) (tuK bb y) ar) Kn (tuOf (vF 105)) k5 su) →  (Kn < k5 + n9) → va_P (dC, dI) vwCl (WR a k h0 vi vj vF vG) H → va_D A (WR a k h0 vi vj vF vG) → va_S A s.heap H locs → lv_has ls 5 [(0, .ref h0), (1, .int (nI Kn)), (2, .int su), (3, .int (nI k5))] → W p l e _ s m _ below meth c H locs 0 0 _ (F0 m 4 ls [])) => loop (Kn + 1) 0 0 _ _ _ (by omega) (⟨rfl, Int.le_refl _, Int.le_refl _⟩) (by omega) hP hD hS hl) ?_
  intro n9
  induction n9 with
  | zero => intro k5 su H locs ls hk5 hsu hf9; exact False.elim (by omega)
  | succ n9 ih4 =>
    intro k5 su H locs ls hk5 hsu hf4 hP hD hS hl
    refine lv_iload_n hx hb dX12_tourCost_4 rfl (lv_at hl 3 rfl) ?_
    refine lv_iload_n hx hb dX12_tourCost_5 rfl (lv_at hl 1 rfl) ?_
    refine lv_icmp_ge (tgt := 60) hx hb dX12_tourCost_6 (by decide) (fun c_6 => ?_) (fun c_6 => ?_)
    · have t_6 : ((k5 : Nat) : Int) ≥ ((Kn : Nat) : Int) := toI_ge c_6 (nI_toInt (by omega)) (nI_toInt (by omega))
      refine lv_iload_n hx hb dX12_tourCost_60 rfl (lv_at hl 2 rfl) ?_
      refine W.widen (k := 0) (n := 0) (by decide +kernel) (by decide +kernel) ?_
      exact W.iret (v := su) hx hb hr (fun t9_ ht hW => ⟨⟨su, (), rfl, by (try dsimp only); (have e9 : k5 = Kn := (by omega)); rw [e9] at hsu; (have h8 := hsu.2.1); (have h7 := hsu.2.2); exact Or.inr ⟨by rw [hsu.1]; omega, hsu.1, by omega⟩, by rw [ht]; exact hP, hD⟩, hS.F ht⟩) hS.2.2 dX12_tourCost_61
    · have t_6 : ¬ ((k5 : Nat) : Int) ≥ ((Kn : Nat) : Int) := toI_nge c_6 (nI_toInt (by omega)) (nI_toInt (by omega))
      have hmod : (k5 + 1) % Kn < Kn := Nat.mod_lt _ (by omega)
      have h91 := hBo k5 (by omega)
      have h92 := hBo ((k5 + 1) % Kn) (by omega)
      have h93 := hRg k5 (by omega)
      have h94 := hRg ((k5 + 1) % Kn) (by omega)
      have hm1 : (vF 104) (((vF 105) k5)).toNatClampNeg = nI (tuK bb (tuOf (vF 105) k5)) := hMb (vF 105 k5).toInt.toNat (by omega)
      have hm2 : (vF 104) (((vF 105) ((k5 + 1) % Kn))).toNatClampNeg = nI (tuK bb (tuOf (vF 105) ((k5 + 1) % Kn))) := hMb (vF 105 ((k5 + 1) % Kn)).toInt.toNat (by omega)
      have hkk1 := tuK_lt bb (tuOf (vF 105) k5)
      have hkk2 := tuK_lt bb (tuOf (vF 105) ((k5 + 1) % Kn))
      refine lv_aload_n hx hb dX12_tourCost_9 rfl (lv_at hl 0 rfl) ?_
      refine lv_aload_n hx hb dX12_tourCost_10 rfl (lv_at hl 0 rfl) ?_
      refine va_get (D := (dC, dI)) (ci := 12) (v := .ref (a 104)) (C := RX12) (T := TX12) (N := 163) (fs := fM (vS a vi vj)) hx hb hts iwsRX12_tourCost_in12 hown hK hP 0 rfl rfl 160 (by decide) (hts _ hm_r_X12_tourCost_0) (fun _ h9 => h9) rfl dX12_tourCost_11 ?_
      refine lv_aload_n hx hb dX12_tourCost_14 rfl (lv_at hl 0 rfl) ?_
      refine va_get (D := (dC, dI)) (ci := 12) (v := .ref (a 105)) (C := RX12) (T := TX12) (N := 163) (fs := fM (vS a vi vj)) hx hb hts iwsRX12_tourCost_in12 hown hK hP 0 rfl rfl 161 (by decide) (hts _ hm_r_X12_tourCost_1) (fun _ h9 => h9) rfl dX12_tourCost_15 ?_
      refine lv_iload_n hx hb dX12_tourCost_18 rfl (lv_at hl 3 rfl) ?_
      refine va_iald (cA := k 105) (n := 8) (f := (vF 105)) hx hb hK hP 106 105 (WR_get 105 (by decide)) (TR_get 105 (by decide)) (vp_in_nI (show k5 < 8 by omega) (by omega)) dX12_tourCost_19 ?_
      refine lv_topi (fun y1 hy1 => ?_)
      obtain rfl : ((vF 105) k5) = y1 := (hy1.trans (by rw [nI_clamp (by omega)])).symm
      refine va_iald (cA := k 104) (n := 8) (f := (vF 104)) hx hb hK hP 105 104 (WR_get 104 (by decide)) (TR_get 104 (by decide)) (vp_in_iff.mpr (by omega)) dX12_tourCost_20 ?_
      refine lv_topi (fun y2 hy2 => ?_)
      obtain rfl : (nI (tuK bb (tuOf (vF 105) k5))) = y2 := (hy2.trans (hm1)).symm
      refine lv_aload_n hx hb dX12_tourCost_21 rfl (lv_at hl 0 rfl) ?_
      refine va_get (D := (dC, dI)) (ci := 12) (v := .ref (a 104)) (C := RX12) (T := TX12) (N := 163) (fs := fM (vS a vi vj)) hx hb hts iwsRX12_tourCost_in12 hown hK hP 0 rfl rfl 160 (by decide) (hts _ hm_r_X12_tourCost_0) (fun _ h9 => h9) rfl dX12_tourCost_22 ?_
      refine lv_aload_n hx hb dX12_tourCost_25 rfl (lv_at hl 0 rfl) ?_
      refine va_get (D := (dC, dI)) (ci := 12) (v := .ref (a 105)) (C := RX12) (T := TX12) (N := 163) (fs := fM (vS a vi vj)) hx hb hts iwsRX12_tourCost_in12 hown hK hP 0 rfl rfl 161 (by decide) (hts _ hm_r_X12_tourCost_1) (fun _ h9 => h9) rfl dX12_tourCost_26 ?_
      refine lv_iload_n hx hb dX12_tourCost_29 rfl (lv_at hl 3 rfl) ?_
      refine lv_iconst (v := 1) hx hb dX12_tourCost_30 (by decide) ?_
      refine lv_iadd hx hb dX12_tourCost_31 ?_
      refine lv_topi (fun y3 hy3 => ?_)
      obtain rfl : (nI (k5 + 1)) = y3 := (hy3.trans (nI_add k5 1)).symm
      refine lv_iload_n hx hb dX12_tourCost_32 rfl (lv_at hl 1 rfl) ?_
      refine lv_irem hx hb dX12_tourCost_33 (by exact nI_ne0 (by omega) (by omega)) ?_
      refine lv_topi (fun y4 hy4 => ?_)
      obtain rfl : (nI ((k5 + 1) % Kn)) = y4 := (hy4.trans (pk_rem (a := (k5 + 1)) (d := Kn) (by omega) (by omega) (by omega))).symm
      refine va_iald (cA := k 105) (n := 8) (f := (vF 105)) hx hb hK hP 106 105 (WR_get 105 (by decide)) (TR_get 105 (by decide)) (vp_in_nI (show ((k5 + 1) % Kn) < 8 by omega) (by omega)) dX12_tourCost_34 ?_
      refine lv_topi (fun y5 hy5 => ?_)
      obtain rfl : ((vF 105) ((k5 + 1) % Kn)) = y5 := (hy5.trans (by rw [nI_clamp (by omega)])).symm
      refine va_iald (cA := k 104) (n := 8) (f := (vF 104)) hx hb hK hP 105 104 (WR_get 104 (by decide)) (TR_get 104 (by decide)) (vp_in_iff.mpr (by omega)) dX12_tourCost_35 ?_
      refine lv_topi (fun y6 hy6 => ?_)
      obtain rfl : (nI (tuK bb (tuOf (vF 105) ((k5 + 1) % Kn)))) = y6 := (hy6.trans (hm2)).symm
      have hFc := allFree hD hS hA
      refine va_calli (va_runV (As := [.int (nI (tuK bb (tuOf (vF 105) k5))), .int (nI (tuK bb (tuOf (vF 105) ((k5 + 1) % Kn))))]) (rest := []) ⟨hx, hb, hml, hown, hts⟩ (r_X12_link l dC dI a k h0 vi vj vF vG (nI (tuK bb (tuOf (vF 105) k5))) (nI (tuK bb (tuOf (vF 105) ((k5 + 1) % Kn)))) ar har (by first | with_reducible assumption | decide | omega | rfl | assumption) (by first | with_reducible assumption | decide | omega | rfl | assumption) (by rw [nI_toInt (by omega)]; omega) (by rw [nI_toInt (by omega)]; omega) H.size) (cwV 2 hts gwsRX12_tourCost_0 rfl rfl rfl hd_yX12_link_RX12 (by decide +kernel)) (fz_pre (va_recv hK hP (ci := 12) (q0 := 0) rfl rfl) hP hK hD) rfl rfl hl.1 rfl (lv_room (Nat.le_of_ble_eq_true rfl)) dX12_tourCost_36 (by decide +kernel)) hS (fun q _ h => hFc q h) hFc (fun r36 u t9_ H locs ht hvm hw9 hB9 hz1 hk1 hS => ?_)
      have hP : va_P (dC, dI) vwCl (WR a k h0 vi vj vF vG) H := fz_P ht hB9.1
      have hD := fz_sd hP (hB9.2.weaken (fun _ q _ h => hFc q.1 h)) rfl
      have f36_0 := hw9
      try dsimp only at f36_0
      have f36_0 : tuE r36 (tuL (((ar : Nat) : Int), (vF 95), (vF 96), (vF 97), (vF 98)) ((nI (tuK bb (tuOf (vF 105) k5)))).toInt.toNat ((nI (tuK bb (tuOf (vF 105) ((k5 + 1) % Kn))))).toInt.toNat ar) := f36_0
      refine lv_istore hx hb dX12_tourCost_39 hl (by decide) rfl (fun ls (hl : lv_has ls _ ([(4, .int r36), (0, .ref h0), (1, .int (nI Kn)), (2, .int su), (3, .int (nI k5))])) => ?_)
      refine lv_iload hx hb dX12_tourCost_41 (lv_at hl 0 rfl) ?_
      refine lv_iconst (v := (-1)) hx hb dX12_tourCost_43 (by decide) ?_
      refine lv_icmp_ne (tgt := 49) hx hb dX12_tourCost_44 (by decide) (fun c_44 => ?_) (fun c_44 => ?_)
      · have t_44 : (r36).toInt ≠ -1 := toI_ne c_44 rfl (by decide)
        refine lv_iload_n hx hb dX12_tourCost_49 rfl (lv_at hl 3 rfl) ?_
        refine lv_iload hx hb dX12_tourCost_50 (lv_at hl 0 rfl) ?_
        refine lv_iadd hx hb dX12_tourCost_52 ?_
        refine lv_istore_n hx hb dX12_tourCost_53 rfl hl (by decide) rfl (fun ls (hl : lv_has ls _ ([(2, .int (su + r36)), (4, .int r36), (0, .ref h0), (1, .int (nI Kn)), (3, .int (nI k5))])) => ?_)
        refine lv_iinc (v := (nI (k5 + 1))) hx hb dX12_tourCost_54 hl (k := 4) rfl (nI_add k5 1) (by decide) rfl (fun ls (hl : lv_has ls _ ([(3, .int (nI (k5 + 1))), (2, .int (su + r36)), (4, .int r36), (0, .ref h0), (1, .int (nI Kn))])) => ?_)
        refine lv_goto (tgt := 4) hx hb dX12_tourCost_57 (by decide) ?_
        have hl : lv_has _ _ ([(0, .ref h0), (1, .int (nI Kn)), (2, .int (su + r36)), (3, .int (nI (k5 + 1)))]) := lv_sub hl [3, 4, 1, 0] rfl
        exact ih4 (k5 + 1) (su + r36) _ _ _ (by omega) (tuSu.step hsu (by omega) (f36_0.at hkk1 hkk2) t_44) (by omega) hP hD hS hl
      · have t_44 : (r36).toInt = -1 := toI_nne c_44 rfl (by decide)
        refine lv_iconst (v := (-1)) hx hb dX12_tourCost_47 (by decide) ?_
        refine W.widen (k := 0) (n := 0) (by decide +kernel) (by decide +kernel) ?_
        exact W.iret (v := (-1)) hx hb hr (fun t9_ ht hW => ⟨⟨(-1), (), rfl, by (try dsimp only); exact Or.inl ⟨by decide, tuSu.far hPP hsu (f36_0.at hkk1 hkk2) t_44 (by omega)⟩, by rw [ht]; exact hP, hD⟩, hS.F ht⟩) hS.2.2 dX12_tourCost_48
theorem dX12_nextOrder_0 : decode cX12_nextOrder 0 = .ok (.iload_n 1, 1) := dk_27 (by decide +kernel)
theorem dX12_nextOrder_1 : decode cX12_nextOrder 1 = .ok (.iconst 2, 1) := dk_5 (by decide +kernel)
theorem dX12_nextOrder_2 : decode cX12_nextOrder 2 = .ok (.isub, 1) := dk_100 (by decide +kernel)
theorem dX12_nextOrder_3 : decode cX12_nextOrder 3 = .ok (.istore_n 2, 1) := dk_61 (by decide +kernel)
theorem dX12_nextOrder_4 : decode cX12_nextOrder 4 = .ok (.iload_n 2, 1) := dk_28 (by decide +kernel)
theorem dX12_nextOrder_5 : decode cX12_nextOrder 5 = .ok (.ifCond .le 26, 3) := dk_158 (by decide +kernel)
theorem dX12_nextOrder_8 : decode cX12_nextOrder 8 = .ok (.aload_n 0, 1) := dk_42 (by decide +kernel)
theorem dX12_nextOrder_9 : decode cX12_nextOrder 9 = .ok (.getfield 342, 3) := dk_180 (by decide +kernel)
theorem dX12_nextOrder_12 : decode cX12_nextOrder 12 = .ok (.iload_n 2, 1) := dk_28 (by decide +kernel)
theorem dX12_nextOrder_13 : decode cX12_nextOrder 13 = .ok (.iaload, 1) := dk_46 (by decide +kernel)
theorem dX12_nextOrder_14 : decode cX12_nextOrder 14 = .ok (.aload_n 0, 1) := dk_42 (by decide +kernel)
theorem dX12_nextOrder_15 : decode cX12_nextOrder 15 = .ok (.getfield 342, 3) := dk_180 (by decide +kernel)
theorem dX12_nextOrder_18 : decode cX12_nextOrder 18 = .ok (.iload_n 2, 1) := dk_28 (by decide +kernel)
theorem dX12_nextOrder_19 : decode cX12_nextOrder 19 = .ok (.iconst 1, 1) := dk_4 (by decide +kernel)
theorem dX12_nextOrder_20 : decode cX12_nextOrder 20 = .ok (.iadd, 1) := dk_96 (by decide +kernel)
theorem dX12_nextOrder_21 : decode cX12_nextOrder 21 = .ok (.iaload, 1) := dk_46 (by decide +kernel)
theorem dX12_nextOrder_22 : decode cX12_nextOrder 22 = .ok (.if_icmp .le 9, 3) := dk_164 (by decide +kernel)
theorem dX12_nextOrder_25 : decode cX12_nextOrder 25 = .ok (.iinc 2 (-1), 3) := dk_132 (by decide +kernel)
theorem dX12_nextOrder_28 : decode cX12_nextOrder 28 = .ok (.goto (-24), 3) := dk_167 (by decide +kernel)
theorem dX12_nextOrder_31 : decode cX12_nextOrder 31 = .ok (.iload_n 2, 1) := dk_28 (by decide +kernel)
theorem dX12_nextOrder_32 : decode cX12_nextOrder 32 = .ok (.ifCond .gt 5, 3) := dk_157 (by decide +kernel)
theorem dX12_nextOrder_35 : decode cX12_nextOrder 35 = .ok (.iconst 0, 1) := dk_3 (by decide +kernel)
theorem dX12_nextOrder_36 : decode cX12_nextOrder 36 = .ok (.ireturn, 1) := dk_172 (by decide +kernel)
theorem dX12_nextOrder_37 : decode cX12_nextOrder 37 = .ok (.iload_n 1, 1) := dk_27 (by decide +kernel)
theorem dX12_nextOrder_38 : decode cX12_nextOrder 38 = .ok (.iconst 1, 1) := dk_4 (by decide +kernel)
theorem dX12_nextOrder_39 : decode cX12_nextOrder 39 = .ok (.isub, 1) := dk_100 (by decide +kernel)
theorem dX12_nextOrder_40 : decode cX12_nextOrder 40 = .ok (.istore_n 3, 1) := dk_62 (by decide +kernel)
theorem dX12_nextOrder_41 : decode cX12_nextOrder 41 = .ok (.aload_n 0, 1) := dk_42 (by decide +kernel)
theorem dX12_nextOrder_42 : decode cX12_nextOrder 42 = .ok (.getfield 342, 3) := dk_180 (by decide +kernel)
theorem dX12_nextOrder_45 : decode cX12_nextOrder 45 = .ok (.iload_n 3, 1) := dk_29 (by decide +kernel)
theorem dX12_nextOrder_46 : decode cX12_nextOrder 46 = .ok (.iaload, 1) := dk_46 (by decide +kernel)
theorem dX12_nextOrder_47 : decode cX12_nextOrder 47 = .ok (.aload_n 0, 1) := dk_42 (by decide +kernel)
theorem dX12_nextOrder_48 : decode cX12_nextOrder 48 = .ok (.getfield 342, 3) := dk_180 (by decide +kernel)
theorem dX12_nextOrder_51 : decode cX12_nextOrder 51 = .ok (.iload_n 2, 1) := dk_28 (by decide +kernel)
theorem dX12_nextOrder_52 : decode cX12_nextOrder 52 = .ok (.iaload, 1) := dk_46 (by decide +kernel)
theorem dX12_nextOrder_53 : decode cX12_nextOrder 53 = .ok (.if_icmp .ge 9, 3) := dk_162 (by decide +kernel)
theorem dX12_nextOrder_56 : decode cX12_nextOrder 56 = .ok (.iinc 3 (-1), 3) := dk_132 (by decide +kernel)
theorem dX12_nextOrder_59 : decode cX12_nextOrder 59 = .ok (.goto (-18), 3) := dk_167 (by decide +kernel)
theorem dX12_nextOrder_62 : decode cX12_nextOrder 62 = .ok (.aload_n 0, 1) := dk_42 (by decide +kernel)
theorem dX12_nextOrder_63 : decode cX12_nextOrder 63 = .ok (.getfield 342, 3) := dk_180 (by decide +kernel)
theorem dX12_nextOrder_66 : decode cX12_nextOrder 66 = .ok (.iload_n 2, 1) := dk_28 (by decide +kernel)
theorem dX12_nextOrder_67 : decode cX12_nextOrder 67 = .ok (.iaload, 1) := dk_46 (by decide +kernel)
theorem dX12_nextOrder_68 : decode cX12_nextOrder 68 = .ok (.istore 4, 2) := dk_54 (by decide +kernel)
theorem dX12_nextOrder_70 : decode cX12_nextOrder 70 = .ok (.aload_n 0, 1) := dk_42 (by decide +kernel)
theorem dX12_nextOrder_71 : decode cX12_nextOrder 71 = .ok (.getfield 342, 3) := dk_180 (by decide +kernel)
theorem dX12_nextOrder_74 : decode cX12_nextOrder 74 = .ok (.iload_n 2, 1) := dk_28 (by decide +kernel)
theorem dX12_nextOrder_75 : decode cX12_nextOrder 75 = .ok (.aload_n 0, 1) := dk_42 (by decide +kernel)
theorem dX12_nextOrder_76 : decode cX12_nextOrder 76 = .ok (.getfield 342, 3) := dk_180 (by decide +kernel)
theorem dX12_nextOrder_79 : decode cX12_nextOrder 79 = .ok (.iload_n 3, 1) := dk_29 (by decide +kernel)
theorem dX12_nextOrder_80 : decode cX12_nextOrder 80 = .ok (.iaload, 1) := dk_46 (by decide +kernel)
theorem dX12_nextOrder_81 : decode cX12_nextOrder 81 = .ok (.iastore, 1) := dk_79 (by decide +kernel)
theorem dX12_nextOrder_82 : decode cX12_nextOrder 82 = .ok (.aload_n 0, 1) := dk_42 (by decide +kernel)
theorem dX12_nextOrder_83 : decode cX12_nextOrder 83 = .ok (.getfield 342, 3) := dk_180 (by decide +kernel)
theorem dX12_nextOrder_86 : decode cX12_nextOrder 86 = .ok (.iload_n 3, 1) := dk_29 (by decide +kernel)
theorem dX12_nextOrder_87 : decode cX12_nextOrder 87 = .ok (.iload 4, 2) := dk_21 (by decide +kernel)
theorem dX12_nextOrder_89 : decode cX12_nextOrder 89 = .ok (.iastore, 1) := dk_79 (by decide +kernel)
theorem dX12_nextOrder_90 : decode cX12_nextOrder 90 = .ok (.iload_n 2, 1) := dk_28 (by decide +kernel)
theorem dX12_nextOrder_91 : decode cX12_nextOrder 91 = .ok (.iconst 1, 1) := dk_4 (by decide +kernel)
theorem dX12_nextOrder_92 : decode cX12_nextOrder 92 = .ok (.iadd, 1) := dk_96 (by decide +kernel)
theorem dX12_nextOrder_93 : decode cX12_nextOrder 93 = .ok (.istore 5, 2) := dk_54 (by decide +kernel)
theorem dX12_nextOrder_95 : decode cX12_nextOrder 95 = .ok (.iload_n 1, 1) := dk_27 (by decide +kernel)
theorem dX12_nextOrder_96 : decode cX12_nextOrder 96 = .ok (.iconst 1, 1) := dk_4 (by decide +kernel)
theorem dX12_nextOrder_97 : decode cX12_nextOrder 97 = .ok (.isub, 1) := dk_100 (by decide +kernel)
theorem dX12_nextOrder_98 : decode cX12_nextOrder 98 = .ok (.istore 6, 2) := dk_54 (by decide +kernel)
theorem dX12_nextOrder_100 : decode cX12_nextOrder 100 = .ok (.iload 5, 2) := dk_21 (by decide +kernel)
theorem dX12_nextOrder_102 : decode cX12_nextOrder 102 = .ok (.iload 6, 2) := dk_21 (by decide +kernel)
theorem dX12_nextOrder_104 : decode cX12_nextOrder 104 = .ok (.if_icmp .ge 44, 3) := dk_162 (by decide +kernel)
theorem dX12_nextOrder_107 : decode cX12_nextOrder 107 = .ok (.aload_n 0, 1) := dk_42 (by decide +kernel)
theorem dX12_nextOrder_108 : decode cX12_nextOrder 108 = .ok (.getfield 342, 3) := dk_180 (by decide +kernel)
theorem dX12_nextOrder_111 : decode cX12_nextOrder 111 = .ok (.iload 5, 2) := dk_21 (by decide +kernel)
theorem dX12_nextOrder_113 : decode cX12_nextOrder 113 = .ok (.iaload, 1) := dk_46 (by decide +kernel)
theorem dX12_nextOrder_114 : decode cX12_nextOrder 114 = .ok (.istore 4, 2) := dk_54 (by decide +kernel)
theorem dX12_nextOrder_116 : decode cX12_nextOrder 116 = .ok (.aload_n 0, 1) := dk_42 (by decide +kernel)
theorem dX12_nextOrder_117 : decode cX12_nextOrder 117 = .ok (.getfield 342, 3) := dk_180 (by decide +kernel)
theorem dX12_nextOrder_120 : decode cX12_nextOrder 120 = .ok (.iload 5, 2) := dk_21 (by decide +kernel)
theorem dX12_nextOrder_122 : decode cX12_nextOrder 122 = .ok (.aload_n 0, 1) := dk_42 (by decide +kernel)
theorem dX12_nextOrder_123 : decode cX12_nextOrder 123 = .ok (.getfield 342, 3) := dk_180 (by decide +kernel)
theorem dX12_nextOrder_126 : decode cX12_nextOrder 126 = .ok (.iload 6, 2) := dk_21 (by decide +kernel)
theorem dX12_nextOrder_128 : decode cX12_nextOrder 128 = .ok (.iaload, 1) := dk_46 (by decide +kernel)
theorem dX12_nextOrder_129 : decode cX12_nextOrder 129 = .ok (.iastore, 1) := dk_79 (by decide +kernel)
theorem dX12_nextOrder_130 : decode cX12_nextOrder 130 = .ok (.aload_n 0, 1) := dk_42 (by decide +kernel)
theorem dX12_nextOrder_131 : decode cX12_nextOrder 131 = .ok (.getfield 342, 3) := dk_180 (by decide +kernel)
theorem dX12_nextOrder_134 : decode cX12_nextOrder 134 = .ok (.iload 6, 2) := dk_21 (by decide +kernel)
theorem dX12_nextOrder_136 : decode cX12_nextOrder 136 = .ok (.iload 4, 2) := dk_21 (by decide +kernel)
theorem dX12_nextOrder_138 : decode cX12_nextOrder 138 = .ok (.iastore, 1) := dk_79 (by decide +kernel)
theorem dX12_nextOrder_139 : decode cX12_nextOrder 139 = .ok (.iinc 5 1, 3) := dk_132 (by decide +kernel)
theorem dX12_nextOrder_142 : decode cX12_nextOrder 142 = .ok (.iinc 6 (-1), 3) := dk_132 (by decide +kernel)
theorem dX12_nextOrder_145 : decode cX12_nextOrder 145 = .ok (.goto (-45), 3) := dk_167 (by decide +kernel)
theorem dX12_nextOrder_148 : decode cX12_nextOrder 148 = .ok (.iconst 1, 1) := dk_4 (by decide +kernel)
theorem dX12_nextOrder_149 : decode cX12_nextOrder 149 = .ok (.ireturn, 1) := dk_172 (by decide +kernel)
def wsRX12_nextOrder : List Cond := .code yX12_nextOrder cX12_nextOrder 7 (some .boolean) :: ([.fieldLink RX12 342 "OptimaWorksModel" "order" "[I"] ++ wsX120)
theorem iwsRX12_nextOrder_in12 : ∀ w ∈ wsX120, w ∈ wsRX12_nextOrder := fun _ h => List.mem_cons_of_mem _ (List.mem_append_right _ h)
theorem gdwsRX12_nextOrder : wsRX12_nextOrder.all goodWord = true := gdC rfl (gdA (by decide +kernel : ([.fieldLink RX12 342 "OptimaWorksModel" "order" "[I"] : List Cond).all goodWord = true) gdwsX120)
theorem hm_r_X12_nextOrder_0 : (.fieldLink RX12 342 "OptimaWorksModel" "order" "[I" : Cond) ∈ wsRX12_nextOrder := by decide +kernel
set_option maxHeartbeats 4000000 in
set_option maxRecDepth 100000 in
/-- nextOrder(n) -/
theorem r_X12_nextOrder (l : Launch) (dC : Nat → ClassId) (dI : Nat → Nat → Nat) (a : Nat → Nat) (k : Nat → ClassId) (h0 : Nat) (vi : Nat → Int32) (vj : Nat → Int64) (vF : Nat → Nat → Int32) (vG : Nat → Nat → Int64) (Kn : Nat) (hK2 : 2 ≤ Kn) (hK8 : Kn ≤ 8) (hBo : Bo (vF 105)) (hIo : Io Kn (vF 105)) (hRg : ∀ i, i < Kn → (vF 105 i).toInt < ((Kn : Nat) : Int)) (sz : Nat) : Met l yX12_nextOrder wsRX12_nextOrder ({ frames := 0, cells := 0, slots := 0, locals := 0 }) (va_Pc [.ref h0, .int (nI Kn)] (fun U => U.heap.size = sz ∧ va_P (dC, dI) vwCl (WR a k h0 vi vj vF vG) U.heap ∧ va_K (dC, dI) vwCl (tX12 k) U ∧ va_D (fun _ => True) (WR a k h0 vi vj vF vG))) (va_Qi (fun (r : Int32) (u : Nat → Int32) => (r = 0 ∧ (Bo u) ∧ (Io Kn u) ∧ (∀ i, i < Kn → (u i).toInt < ((Kn : Nat) : Int)) ∧ (u = vF 105) ∧ (∀ t, 0 < t → t + 1 < Kn → tuOf (vF 105) (t + 1) < tuOf (vF 105) t)) ∨ (r = 1 ∧ (Bo u) ∧ (Io Kn u) ∧ (∀ i, i < Kn → (u i).toInt < ((Kn : Nat) : Int)) ∧ (∃ k0, k0 < 8 ∧ (∀ i, i < k0 → u i = vF 105 i) ∧ (vF 105 k0).toInt < (u k0).toInt) ∧ (∃ k, 0 < k ∧ tuZ Kn k (tuOf (vF 105)) (tuOf u)) ∧ (u 0 = vF 105 0))) (fun (u : Nat → Int32) t => va_P (dC, dI) vwCl (WR a k h0 vi vj (fT vF 105 u) vG) t.heap ∧ va_D (va_A (WR a k h0 vi vj vF vG) sz) (WR a k h0 vi vj (fT vF 105 u) vG)) (va_A (WR a k h0 vi vj vF vG) sz)) 0 0 (va_A (WR a k h0 vi vj vF vG) sz) := by
  refine Met.ofW (cc := cX12_nextOrder) (maxL := 7) (ret := (some .boolean)) (by decide) rfl ?_
  intro p e s m args below meth c s₁ B hml hv
  obtain ⟨rfl, hsz, hP, hK, hD0⟩ := hv
  have hx := B.exec
  have hb := B.bytes
  have hr := B.returns
  have hts := atoms_spec (ws := wsRX12_nextOrder) B.pre
  have hown : s.vm.findClass RX12 = some m.cls := findClass_of_methodNamed B.named
  have hlocks := B.notSynchronized
  subst hsz
  have hD := hD0.self (sz := s.heap.size)
  generalize hAe : va_A (WR a k h0 vi vj vF vG) s.heap.size = A at hD ⊢
  have hA : ∀ q : Nat, s.heap.size ≤ q → A q := fun q h => by rw [← hAe]; exact Or.inr h
  have hS : va_S A s.heap s.heap [] := va_S.rf
  have hl := lv_entry ([.ref h0, .int (nI Kn)]) (n := 7) (Nat.le_of_ble_eq_true rfl)
  rw [lg_entry_eq]
  generalize (lg_sl ([.ref h0, .int (nI Kn)]) ++ List.replicate (7 - (lg_sl ([.ref h0, .int (nI Kn)])).length) Slot.unset).toArray = ls at hl ⊢
  have hl : lv_has ls 7 [(0, .ref h0), (1, .int (nI Kn))] := hl
  refine lv_iload_n hx hb dX12_nextOrder_0 rfl (lv_at hl 1 rfl) ?_
  refine lv_iconst (v := 2) hx hb dX12_nextOrder_1 (by decide) ?_
  refine lv_isub hx hb dX12_nextOrder_2 ?_
  refine lv_topi (fun y1 hy1 => ?_)
  obtain rfl : (nI (Kn - 2)) = y1 := (hy1.trans (pk_sub (a := Kn) (b := 2) (by omega))).symm
  refine lv_istore_n hx hb dX12_nextOrder_3 rfl hl (by decide) rfl (fun ls (hl : lv_has ls _ ([(2, .int (nI (Kn - 2))), (0, .ref h0), (1, .int (nI Kn))])) => ?_)
  have hl : lv_has _ _ ([(2, .int (nI (Kn - 2))), (0, .ref h0), (1, .int (nI Kn))]) := lv_sub hl [0, 1, 2] rfl
  refine (fun (loop : ∀ (n9 : Nat) (k1 : Nat) (H : Heap) (locs : List Loc) (ls : Array Slot), (k1 + 2 ≤ Kn) → (∀ t, k1 < t → t + 1 < Kn → tuOf (vF 105) (t + 1) < tuOf (vF 105) t) →  (k1 < n9) → va_P (dC, dI) vwCl (WR a k h0 vi vj vF vG) H → va_D A (WR a k h0 vi vj vF vG) → va_S A s.heap H locs → lv_has ls 7 [(2, .int (nI k1)), (0, .ref h0), (1, .int (nI Kn))] → W p l e _ s m _ below meth c H locs 0 0 _ (F0 m 4 ls [])) => loop (9) (Kn - 2) _ _ _ (by omega) (fun t h1 h2 => absurd h2 (by omega)) (by omega) hP hD hS hl) ?_
  intro n9
  induction n9 with
  | zero => intro k1 H locs ls hk1 hds hf9; exact False.elim (by omega)
  | succ n9 ih4 =>
    intro k1 H locs ls hk1 hds hf4 hP hD hS hl
    refine lv_iload_n hx hb dX12_nextOrder_4 rfl (lv_at hl 0 rfl) ?_
    refine lv_if_le (tgt := 31) hx hb dX12_nextOrder_5 (by decide) (fun c_5 => ?_) (fun c_5 => ?_)
    · have t_5 : ((k1 : Nat) : Int) ≤ 0 := toI_le c_5 (nI_toInt (by omega)) (by decide)
      refine lv_iload_n hx hb dX12_nextOrder_31 rfl (lv_at hl 0 rfl) ?_
      refine lv_if_gt (tgt := 37) hx hb dX12_nextOrder_32 (by decide) (fun c9 => False.elim (by have t9 : ((k1 : Nat) : Int) > 0 := toI_gt c9 (nI_toInt (by omega)) (by decide); omega)) (fun c_32 => ?_)
      have t_32 : ¬ ((k1 : Nat) : Int) > 0 := toI_ngt c_32 (nI_toInt (by omega)) (by decide)
      refine lv_iconst (v := 0) hx hb dX12_nextOrder_35 (by decide) ?_
      refine W.widen (k := 0) (n := 0) (by decide +kernel) (by decide +kernel) ?_
      have e9 : fT vF 105 (vF 105) = vF := fT_id _ _ (rfl)
      have hP := wr_PF e9 hP
      have hD := wr_DF e9 hD
      clear e9
      exact W.zret (v := 0) hx hb hr rfl (fun t9_ ht hW => ⟨⟨0, (vF 105), rfl, by (try dsimp only); exact Or.inl ⟨rfl, hBo, hIo, hRg, rfl, fun t h1 h2 => hds t (by omega) h2⟩, by rw [ht]; exact hP, hD⟩, hS.F ht⟩) hS.2.2 dX12_nextOrder_36
    · have t_5 : ¬ ((k1 : Nat) : Int) ≤ 0 := toI_nle c_5 (nI_toInt (by omega)) (by decide)
      refine lv_aload_n hx hb dX12_nextOrder_8 rfl (lv_at hl 1 rfl) ?_
      refine va_get (D := (dC, dI)) (ci := 12) (v := .ref (a 105)) (C := RX12) (T := TX12) (N := 163) (fs := fM (vS a vi vj)) hx hb hts iwsRX12_nextOrder_in12 hown hK hP 0 rfl rfl 161 (by decide) (hts _ hm_r_X12_nextOrder_0) (fun _ h9 => h9) rfl dX12_nextOrder_9 ?_
      refine lv_iload_n hx hb dX12_nextOrder_12 rfl (lv_at hl 0 rfl) ?_
      refine va_iald (cA := k 105) (n := 8) (f := (vF 105)) hx hb hK hP 106 105 (WR_get 105 (by decide)) (TR_get 105 (by decide)) (vp_in_nI (show k1 < 8 by omega) (by omega)) dX12_nextOrder_13 ?_
      refine lv_topi (fun y2 hy2 => ?_)
      obtain rfl : ((vF 105) k1) = y2 := (hy2.trans (by rw [nI_clamp (by omega)])).symm
      refine lv_aload_n hx hb dX12_nextOrder_14 rfl (lv_at hl 1 rfl) ?_
      refine va_get (D := (dC, dI)) (ci := 12) (v := .ref (a 105)) (C := RX12) (T := TX12) (N := 163) (fs := fM (vS a vi vj)) hx hb hts iwsRX12_nextOrder_in12 hown hK hP 0 rfl rfl 161 (by decide) (hts _ hm_r_X12_nextOrder_0) (fun _ h9 => h9) rfl dX12_nextOrder_15 ?_
      refine lv_iload_n hx hb dX12_nextOrder_18 rfl (lv_at hl 0 rfl) ?_
      refine lv_iconst (v := 1) hx hb dX12_nextOrder_19 (by decide) ?_
      refine lv_iadd hx hb dX12_nextOrder_20 ?_
      refine lv_topi (fun y3 hy3 => ?_)
      obtain rfl : (nI (k1 + 1)) = y3 := (hy3.trans (nI_add k1 1)).symm
      refine va_iald (cA := k 105) (n := 8) (f := (vF 105)) hx hb hK hP 106 105 (WR_get 105 (by decide)) (TR_get 105 (by decide)) (vp_in_nI (show (k1 + 1) < 8 by omega) (by omega)) dX12_nextOrder_21 ?_
      refine lv_topi (fun y4 hy4 => ?_)
      obtain rfl : ((vF 105) (k1 + 1)) = y4 := (hy4.trans (by rw [nI_clamp (by omega)])).symm
      refine lv_icmp_le (tgt := 31) hx hb dX12_nextOrder_22 (by decide) (fun c_22 => ?_) (fun c_22 => ?_)
      · have t_22 : (((vF 105) k1)).toInt ≤ (((vF 105) (k1 + 1))).toInt := toI_le c_22 rfl rfl
        refine lv_iload_n hx hb dX12_nextOrder_31 rfl (lv_at hl 0 rfl) ?_
        refine lv_if_gt (tgt := 37) hx hb dX12_nextOrder_32 (by decide) (fun c_32 => ?_) (fun c9 => False.elim (by have t9 : ¬ ((k1 : Nat) : Int) > 0 := toI_ngt c9 (nI_toInt (by omega)) (by decide); omega))
        have t_32 : ((k1 : Nat) : Int) > 0 := toI_gt c_32 (nI_toInt (by omega)) (by decide)
        refine lv_iload_n hx hb dX12_nextOrder_37 rfl (lv_at hl 2 rfl) ?_
        refine lv_iconst (v := 1) hx hb dX12_nextOrder_38 (by decide) ?_
        refine lv_isub hx hb dX12_nextOrder_39 ?_
        refine lv_topi (fun y5 hy5 => ?_)
        obtain rfl : (nI (Kn - 1)) = y5 := (hy5.trans (pk_sub (a := Kn) (b := 1) (by omega))).symm
        refine lv_istore_n hx hb dX12_nextOrder_40 rfl hl (by decide) rfl (fun ls (hl : lv_has ls _ ([(3, .int (nI (Kn - 1))), (2, .int (nI k1)), (0, .ref h0), (1, .int (nI Kn))])) => ?_)
        have hl : lv_has _ _ ([(3, .int (nI (Kn - 1))), (2, .int (nI k1)), (0, .ref h0), (1, .int (nI Kn))]) := lv_sub hl [0, 1, 2, 3] rfl
        refine (fun (loop : ∀ (n9 : Nat) (j1 : Nat) (H : Heap) (locs : List Loc) (ls : Array Slot), (k1 + 1 ≤ j1 ∧ j1 < Kn) → (∀ t, j1 < t → t < Kn → (vF 105 t).toInt < (vF 105 k1).toInt) →  (j1 < n9) → va_P (dC, dI) vwCl (WR a k h0 vi vj vF vG) H → va_D A (WR a k h0 vi vj vF vG) → va_S A s.heap H locs → lv_has ls 7 [(3, .int (nI j1)), (2, .int (nI k1)), (0, .ref h0), (1, .int (nI Kn))] → W p l e _ s m _ below meth c H locs 0 0 _ (F0 m 41 ls [])) => loop (9) (Kn - 1) _ _ _ (by omega) (fun t h1 h2 => absurd h2 (by omega)) (by omega) hP hD hS hl) ?_
        intro n9
        induction n9 with
        | zero => intro j1 H locs ls hj1 hjs hf9; exact False.elim (by omega)
        | succ n9 ih41_1 =>
          intro j1 H locs ls hj1 hjs hf41_1 hP hD hS hl
          refine lv_aload_n hx hb dX12_nextOrder_41 rfl (lv_at hl 2 rfl) ?_
          refine va_get (D := (dC, dI)) (ci := 12) (v := .ref (a 105)) (C := RX12) (T := TX12) (N := 163) (fs := fM (vS a vi vj)) hx hb hts iwsRX12_nextOrder_in12 hown hK hP 0 rfl rfl 161 (by decide) (hts _ hm_r_X12_nextOrder_0) (fun _ h9 => h9) rfl dX12_nextOrder_42 ?_
          refine lv_iload_n hx hb dX12_nextOrder_45 rfl (lv_at hl 0 rfl) ?_
          refine va_iald (cA := k 105) (n := 8) (f := (vF 105)) hx hb hK hP 106 105 (WR_get 105 (by decide)) (TR_get 105 (by decide)) (vp_in_nI (show j1 < 8 by omega) (by omega)) dX12_nextOrder_46 ?_
          refine lv_topi (fun y6 hy6 => ?_)
          obtain rfl : ((vF 105) j1) = y6 := (hy6.trans (by rw [nI_clamp (by omega)])).symm
          refine lv_aload_n hx hb dX12_nextOrder_47 rfl (lv_at hl 2 rfl) ?_
          refine va_get (D := (dC, dI)) (ci := 12) (v := .ref (a 105)) (C := RX12) (T := TX12) (N := 163) (fs := fM (vS a vi vj)) hx hb hts iwsRX12_nextOrder_in12 hown hK hP 0 rfl rfl 161 (by decide) (hts _ hm_r_X12_nextOrder_0) (fun _ h9 => h9) rfl dX12_nextOrder_48 ?_
          refine lv_iload_n hx hb dX12_nextOrder_51 rfl (lv_at hl 1 rfl) ?_
          refine va_iald (cA := k 105) (n := 8) (f := (vF 105)) hx hb hK hP 106 105 (WR_get 105 (by decide)) (TR_get 105 (by decide)) (vp_in_nI (show k1 < 8 by omega) (by omega)) dX12_nextOrder_52 ?_
          refine lv_topi (fun y7 hy7 => ?_)
          obtain rfl : ((vF 105) k1) = y7 := (hy7.trans (by rw [nI_clamp (by omega)])).symm
          refine lv_icmp_ge (tgt := 62) hx hb dX12_nextOrder_53 (by decide) (fun c_53 => ?_) (fun c_53 => ?_)
          · have t_53 : (((vF 105) j1)).toInt ≥ (((vF 105) k1)).toInt := toI_ge c_53 rfl rfl
            refine lv_aload_n hx hb dX12_nextOrder_62 rfl (lv_at hl 2 rfl) ?_
            refine va_get (D := (dC, dI)) (ci := 12) (v := .ref (a 105)) (C := RX12) (T := TX12) (N := 163) (fs := fM (vS a vi vj)) hx hb hts iwsRX12_nextOrder_in12 hown hK hP 0 rfl rfl 161 (by decide) (hts _ hm_r_X12_nextOrder_0) (fun _ h9 => h9) rfl dX12_nextOrder_63 ?_
            refine lv_iload_n hx hb dX12_nextOrder_66 rfl (lv_at hl 1 rfl) ?_
            refine va_iald (cA := k 105) (n := 8) (f := (vF 105)) hx hb hK hP 106 105 (WR_get 105 (by decide)) (TR_get 105 (by decide)) (vp_in_nI (show k1 < 8 by omega) (by omega)) dX12_nextOrder_67 ?_
            refine lv_topi (fun y8 hy8 => ?_)
            obtain rfl : ((vF 105) k1) = y8 := (hy8.trans (by rw [nI_clamp (by omega)])).symm
            refine lv_istore hx hb dX12_nextOrder_68 hl (by decide) rfl (fun ls (hl : lv_has ls _ ([(4, .int ((vF 105) k1)), (3, .int (nI j1)), (2, .int (nI k1)), (0, .ref h0), (1, .int (nI Kn))])) => ?_)
            refine lv_aload_n hx hb dX12_nextOrder_70 rfl (lv_at hl 3 rfl) ?_
            refine va_get (D := (dC, dI)) (ci := 12) (v := .ref (a 105)) (C := RX12) (T := TX12) (N := 163) (fs := fM (vS a vi vj)) hx hb hts iwsRX12_nextOrder_in12 hown hK hP 0 rfl rfl 161 (by decide) (hts _ hm_r_X12_nextOrder_0) (fun _ h9 => h9) rfl dX12_nextOrder_71 ?_
            refine lv_iload_n hx hb dX12_nextOrder_74 rfl (lv_at hl 2 rfl) ?_
            refine lv_aload_n hx hb dX12_nextOrder_75 rfl (lv_at hl 3 rfl) ?_
            refine va_get (D := (dC, dI)) (ci := 12) (v := .ref (a 105)) (C := RX12) (T := TX12) (N := 163) (fs := fM (vS a vi vj)) hx hb hts iwsRX12_nextOrder_in12 hown hK hP 0 rfl rfl 161 (by decide) (hts _ hm_r_X12_nextOrder_0) (fun _ h9 => h9) rfl dX12_nextOrder_76 ?_
            refine lv_iload_n hx hb dX12_nextOrder_79 rfl (lv_at hl 1 rfl) ?_
            refine va_iald (cA := k 105) (n := 8) (f := (vF 105)) hx hb hK hP 106 105 (WR_get 105 (by decide)) (TR_get 105 (by decide)) (vp_in_nI (show j1 < 8 by omega) (by omega)) dX12_nextOrder_80 ?_
            refine lv_topi (fun y9 hy9 => ?_)
            obtain rfl : ((vF 105) j1) = y9 := (hy9.trans (by rw [nI_clamp (by omega)])).symm
            refine va_iast (cA := k 105) (n := 8) (f := (vF 105)) hx hb hK hP hD hS 106 105 (WR_get 105 (by decide)) (TR_get 105 (by decide)) (vp_in_nI (show k1 < 8 by omega) (by omega)) dX12_nextOrder_81 (fun H locs hP hD hS => ?_)
            have hP : va_P (dC, dI) vwCl (WR a k h0 vi vj (fT vF 105 (upd (vF 105) ((nI k1)).toNatClampNeg ((vF 105) j1))) vG) H := fz_w (WR_F 105 (by decide) _ rfl) hP
            have hD : va_D A (WR a k h0 vi vj (fT vF 105 (upd (vF 105) ((nI k1)).toNatClampNeg ((vF 105) j1))) vG) := fz_wD (WR_F 105 (by decide) _ rfl) hD
            refine lv_aload_n hx hb dX12_nextOrder_82 rfl (lv_at hl 3 rfl) ?_
            refine va_get (D := (dC, dI)) (ci := 12) (v := .ref (a 105)) (C := RX12) (T := TX12) (N := 163) (fs := fM (vS a vi vj)) hx hb hts iwsRX12_nextOrder_in12 hown hK hP 0 rfl rfl 161 (by decide) (hts _ hm_r_X12_nextOrder_0) (fun _ h9 => h9) rfl dX12_nextOrder_83 ?_
            refine lv_iload_n hx hb dX12_nextOrder_86 rfl (lv_at hl 1 rfl) ?_
            refine lv_iload hx hb dX12_nextOrder_87 (lv_at hl 0 rfl) ?_
            refine va_iast (cA := k 105) (n := 8) (f := (upd (vF 105) ((nI k1)).toNatClampNeg ((vF 105) j1))) hx hb hK hP hD hS 106 105 (WR_get 105 (by decide)) (TR_get 105 (by decide)) (vp_in_nI (show j1 < 8 by omega) (by omega)) dX12_nextOrder_89 (fun H locs hP hD hS => ?_)
            have e9 : fT vF 105 (upd (upd (vF 105) ((nI k1)).toNatClampNeg ((vF 105) j1)) ((nI j1)).toNatClampNeg ((vF 105) k1)) = fT (fT vF 105 (upd (vF 105) ((nI k1)).toNatClampNeg ((vF 105) j1))) 105 (upd (upd (vF 105) ((nI k1)).toNatClampNeg ((vF 105) j1)) ((nI j1)).toNatClampNeg ((vF 105) k1)) := (fT_sm _ _ _ _).symm
            have hP := wr_PF e9 (fz_w (WR_F 105 (by decide) _ rfl) hP)
            have hD := wr_DF e9 (fz_wD (WR_F 105 (by decide) _ rfl) hD)
            clear e9
            refine lv_iload_n hx hb dX12_nextOrder_90 rfl (lv_at hl 2 rfl) ?_
            refine lv_iconst (v := 1) hx hb dX12_nextOrder_91 (by decide) ?_
            refine lv_iadd hx hb dX12_nextOrder_92 ?_
            refine lv_topi (fun y10 hy10 => ?_)
            obtain rfl : (nI (k1 + 1)) = y10 := (hy10.trans (nI_add k1 1)).symm
            refine lv_istore hx hb dX12_nextOrder_93 hl (by decide) rfl (fun ls (hl : lv_has ls _ ([(5, .int (nI (k1 + 1))), (4, .int ((vF 105) k1)), (3, .int (nI j1)), (2, .int (nI k1)), (0, .ref h0), (1, .int (nI Kn))])) => ?_)
            refine lv_iload_n hx hb dX12_nextOrder_95 rfl (lv_at hl 5 rfl) ?_
            refine lv_iconst (v := 1) hx hb dX12_nextOrder_96 (by decide) ?_
            refine lv_isub hx hb dX12_nextOrder_97 ?_
            refine lv_topi (fun y11 hy11 => ?_)
            obtain rfl : (nI (Kn - 1)) = y11 := (hy11.trans (pk_sub (a := Kn) (b := 1) (by omega))).symm
            refine lv_istore hx hb dX12_nextOrder_98 hl (by decide) rfl (fun ls (hl : lv_has ls _ ([(6, .int (nI (Kn - 1))), (5, .int (nI (k1 + 1))), (4, .int ((vF 105) k1)), (3, .int (nI j1)), (2, .int (nI k1)), (0, .ref h0), (1, .int (nI Kn))])) => ?_)
            have hl : lv_has _ _ ([(5, .int (nI (k1 + 1))), (6, .int (nI (Kn - 1))), (0, .ref h0), (1, .int (nI Kn))]) := lv_sub hl [1, 0, 5, 6] rfl
            refine (fun (loop : ∀ (n9 : Nat) (a1 : Nat) (b1 : Nat) (g : Nat → Int32) (H : Heap) (locs : List Loc) (ls : Array Slot), (k1 < a1 ∧ a1 ≤ 16 ∧ b1 < Kn) → (Bo g) → (Io Kn g) → (∀ i, i < Kn → (g i).toInt < ((Kn : Nat) : Int)) → (tuRv Kn k1 a1 b1 (tuSw (vF 105) k1 j1) g) → ((∀ i, i < k1 → g i = vF 105 i) ∧ (vF 105 k1).toInt < (g k1).toInt) →  (b1 + 1 < n9 + 1) → va_P (dC, dI) vwCl (WR a k h0 vi vj (fT vF 105 g) vG) H → va_D A (WR a k h0 vi vj (fT vF 105 g) vG) → va_S A s.heap H locs → lv_has ls 7 [(5, .int (nI a1)), (6, .int (nI b1)), (0, .ref h0), (1, .int (nI Kn))] → W p l e _ s m _ below meth c H locs 0 0 _ (F0 m 100 ls [])) => loop (9) (k1 + 1) (Kn - 1) (upd (upd (vF 105) ((nI k1)).toNatClampNeg ((vF 105) j1)) ((nI j1)).toNatClampNeg ((vF 105) k1)) _ _ _ (by omega) (sw_B (by omega) (by omega) hBo) (sw_I (by omega) (by omega) (by omega) hIo) (sw_R (by omega) (by omega) (by omega) hRg) (tuRv.start (by omega) (by omega) hK8) (⟨fun i9 h9 => by rw [sw_at (by omega) (by omega), if_neg (by omega), if_neg (by omega)], by rw [sw_at (by omega) (by omega), if_neg (by omega), if_pos rfl]; exact ne_lt hIo (by omega) (by omega) (by omega) (by omega)⟩) (by omega) hP hD hS hl) ?_
            intro n9
            induction n9 with
            | zero => intro a1 b1 g H locs ls ha1 hB2 hI2 hR2 hrv hp2 hf9; exact False.elim (by omega)
            | succ n9 ih100_2 =>
              intro a1 b1 g H locs ls ha1 hB2 hI2 hR2 hrv hp2 hf100_2 hP hD hS hl
              refine lv_iload hx hb dX12_nextOrder_100 (lv_at hl 0 rfl) ?_
              refine lv_iload hx hb dX12_nextOrder_102 (lv_at hl 1 rfl) ?_
              refine lv_icmp_ge (tgt := 148) hx hb dX12_nextOrder_104 (by decide) (fun c_104 => ?_) (fun c_104 => ?_)
              · have t_104 : ((a1 : Nat) : Int) ≥ ((b1 : Nat) : Int) := toI_ge c_104 (nI_toInt (by omega)) (nI_toInt (by omega))
                refine lv_iconst (v := 1) hx hb dX12_nextOrder_148 (by decide) ?_
                refine W.widen (k := 0) (n := 0) (by decide +kernel) (by decide +kernel) ?_
                exact W.zret (v := 1) hx hb hr rfl (fun t9_ ht hW => ⟨⟨1, g, rfl, by (try dsimp only); exact Or.inr ⟨rfl, hB2, hI2, hR2, ⟨k1, by omega, hp2.1, hp2.2⟩, ⟨k1, by omega, tuZ.of hBo hIo hK8 hj1 hds hjs t_53 hrv t_104⟩, hp2.1 0 (by omega)⟩, by rw [ht]; exact hP, hD⟩, hS.F ht⟩) hS.2.2 dX12_nextOrder_149
              · have t_104 : ¬ ((a1 : Nat) : Int) ≥ ((b1 : Nat) : Int) := toI_nge c_104 (nI_toInt (by omega)) (nI_toInt (by omega))
                refine lv_aload_n hx hb dX12_nextOrder_107 rfl (lv_at hl 2 rfl) ?_
                refine va_get (D := (dC, dI)) (ci := 12) (v := .ref (a 105)) (C := RX12) (T := TX12) (N := 163) (fs := fM (vS a vi vj)) hx hb hts iwsRX12_nextOrder_in12 hown hK hP 0 rfl rfl 161 (by decide) (hts _ hm_r_X12_nextOrder_0) (fun _ h9 => h9) rfl dX12_nextOrder_108 ?_
                refine lv_iload hx hb dX12_nextOrder_111 (lv_at hl 0 rfl) ?_
                refine va_iald (cA := k 105) (n := 8) (f := g) hx hb hK hP 106 105 (WR_get 105 (by decide)) (TR_get 105 (by decide)) (vp_in_nI (show a1 < 8 by omega) (by omega)) dX12_nextOrder_113 ?_
                refine lv_topi (fun y12 hy12 => ?_)
                obtain rfl : (g a1) = y12 := (hy12.trans (by rw [nI_clamp (by omega)])).symm
                refine lv_istore hx hb dX12_nextOrder_114 hl (by decide) rfl (fun ls (hl : lv_has ls _ ([(4, .int (g a1)), (5, .int (nI a1)), (6, .int (nI b1)), (0, .ref h0), (1, .int (nI Kn))])) => ?_)
                refine lv_aload_n hx hb dX12_nextOrder_116 rfl (lv_at hl 3 rfl) ?_
                refine va_get (D := (dC, dI)) (ci := 12) (v := .ref (a 105)) (C := RX12) (T := TX12) (N := 163) (fs := fM (vS a vi vj)) hx hb hts iwsRX12_nextOrder_in12 hown hK hP 0 rfl rfl 161 (by decide) (hts _ hm_r_X12_nextOrder_0) (fun _ h9 => h9) rfl dX12_nextOrder_117 ?_
                refine lv_iload hx hb dX12_nextOrder_120 (lv_at hl 1 rfl) ?_
                refine lv_aload_n hx hb dX12_nextOrder_122 rfl (lv_at hl 3 rfl) ?_
                refine va_get (D := (dC, dI)) (ci := 12) (v := .ref (a 105)) (C := RX12) (T := TX12) (N := 163) (fs := fM (vS a vi vj)) hx hb hts iwsRX12_nextOrder_in12 hown hK hP 0 rfl rfl 161 (by decide) (hts _ hm_r_X12_nextOrder_0) (fun _ h9 => h9) rfl dX12_nextOrder_123 ?_
                refine lv_iload hx hb dX12_nextOrder_126 (lv_at hl 2 rfl) ?_
                refine va_iald (cA := k 105) (n := 8) (f := g) hx hb hK hP 106 105 (WR_get 105 (by decide)) (TR_get 105 (by decide)) (vp_in_nI (show b1 < 8 by omega) (by omega)) dX12_nextOrder_128 ?_
                refine lv_topi (fun y13 hy13 => ?_)
                obtain rfl : (g b1) = y13 := (hy13.trans (by rw [nI_clamp (by omega)])).symm
                refine va_iast (cA := k 105) (n := 8) (f := g) hx hb hK hP hD hS 106 105 (WR_get 105 (by decide)) (TR_get 105 (by decide)) (vp_in_nI (show a1 < 8 by omega) (by omega)) dX12_nextOrder_129 (fun H locs hP hD hS => ?_)
                have e9 : fT vF 105 (upd g ((nI a1)).toNatClampNeg (g b1)) = fT (fT vF 105 g) 105 (upd g ((nI a1)).toNatClampNeg (g b1)) := (fT_sm _ _ _ _).symm
                have hP := wr_PF e9 (fz_w (WR_F 105 (by decide) _ rfl) hP)
                have hD := wr_DF e9 (fz_wD (WR_F 105 (by decide) _ rfl) hD)
                clear e9
                refine lv_aload_n hx hb dX12_nextOrder_130 rfl (lv_at hl 3 rfl) ?_
                refine va_get (D := (dC, dI)) (ci := 12) (v := .ref (a 105)) (C := RX12) (T := TX12) (N := 163) (fs := fM (vS a vi vj)) hx hb hts iwsRX12_nextOrder_in12 hown hK hP 0 rfl rfl 161 (by decide) (hts _ hm_r_X12_nextOrder_0) (fun _ h9 => h9) rfl dX12_nextOrder_131 ?_
                refine lv_iload hx hb dX12_nextOrder_134 (lv_at hl 2 rfl) ?_
                refine lv_iload hx hb dX12_nextOrder_136 (lv_at hl 0 rfl) ?_
                refine va_iast (cA := k 105) (n := 8) (f := (upd g ((nI a1)).toNatClampNeg (g b1))) hx hb hK hP hD hS 106 105 (WR_get 105 (by decide)) (TR_get 105 (by decide)) (vp_in_nI (show b1 < 8 by omega) (by omega)) dX12_nextOrder_138 (fun H locs hP hD hS => ?_)
                have e9 : fT vF 105 (upd (upd g ((nI a1)).toNatClampNeg (g b1)) ((nI b1)).toNatClampNeg (g a1)) = fT (fT vF 105 (upd g ((nI a1)).toNatClampNeg (g b1))) 105 (upd (upd g ((nI a1)).toNatClampNeg (g b1)) ((nI b1)).toNatClampNeg (g a1)) := (fT_sm _ _ _ _).symm
                have hP := wr_PF e9 (fz_w (WR_F 105 (by decide) _ rfl) hP)
                have hD := wr_DF e9 (fz_wD (WR_F 105 (by decide) _ rfl) hD)
                clear e9
                refine lv_iinc (v := (nI (a1 + 1))) hx hb dX12_nextOrder_139 hl (k := 1) rfl (nI_add a1 1) (by decide) rfl (fun ls (hl : lv_has ls _ ([(5, .int (nI (a1 + 1))), (4, .int (g a1)), (6, .int (nI b1)), (0, .ref h0), (1, .int (nI Kn))])) => ?_)
                refine lv_iinc (v := (nI (b1 - 1))) hx hb dX12_nextOrder_142 hl (k := 2) rfl (sb_m1 (by omega)) (by decide) rfl (fun ls (hl : lv_has ls _ ([(6, .int (nI (b1 - 1))), (5, .int (nI (a1 + 1))), (4, .int (g a1)), (0, .ref h0), (1, .int (nI Kn))])) => ?_)
                refine lv_goto (tgt := 100) hx hb dX12_nextOrder_145 (by decide) ?_
                have hl : lv_has _ _ ([(5, .int (nI (a1 + 1))), (6, .int (nI (b1 - 1))), (0, .ref h0), (1, .int (nI Kn))]) := lv_sub hl [1, 0, 3, 4] rfl
                exact ih100_2 (a1 + 1) (b1 - 1) (upd (upd g ((nI a1)).toNatClampNeg (g b1)) ((nI b1)).toNatClampNeg (g a1)) _ _ _ (by omega) (sw_B (by omega) (by omega) hB2) (sw_I (by omega) (by omega) (by omega) hI2) (sw_R (by omega) (by omega) (by omega) hR2) (hrv.step (by omega) t_104 (by omega) hK8) (⟨fun i9 h9 => by rw [sw_at (by omega) (by omega), if_neg (by omega), if_neg (by omega)]; exact hp2.1 i9 h9, by rw [sw_at (by omega) (by omega), if_neg (by omega), if_neg (by omega)]; exact hp2.2⟩) (by omega) hP hD hS hl
          · have t_53 : ¬ (((vF 105) j1)).toInt ≥ (((vF 105) k1)).toInt := toI_nge c_53 rfl rfl
            refine lv_iinc (v := (nI (j1 - 1))) hx hb dX12_nextOrder_56 hl (k := 0) rfl (sb_m1 (by omega)) (by decide) rfl (fun ls (hl : lv_has ls _ ([(3, .int (nI (j1 - 1))), (2, .int (nI k1)), (0, .ref h0), (1, .int (nI Kn))])) => ?_)
            refine lv_goto (tgt := 41) hx hb dX12_nextOrder_59 (by decide) ?_
            have hl : lv_has _ _ ([(3, .int (nI (j1 - 1))), (2, .int (nI k1)), (0, .ref h0), (1, .int (nI Kn))]) := lv_sub hl [0, 1, 2, 3] rfl
            exact ih41_1 (j1 - 1) _ _ _ (by rcases Nat.lt_or_ge (k1 + 1) j1 with h | h; omega; (have e9 : j1 = k1 + 1 := (by omega); subst e9; omega)) (fun t h1 h2 => by rcases Nat.lt_or_ge j1 t with h3 | h3; (exact hjs t h3 h2); (rw [show t = j1 from by omega]; omega)) (by omega) hP hD hS hl
      · have t_22 : ¬ (((vF 105) k1)).toInt ≤ (((vF 105) (k1 + 1))).toInt := toI_nle c_22 rfl rfl
        refine lv_iinc (v := (nI (k1 - 1))) hx hb dX12_nextOrder_25 hl (k := 0) rfl (sb_m1 (by omega)) (by decide) rfl (fun ls (hl : lv_has ls _ ([(2, .int (nI (k1 - 1))), (0, .ref h0), (1, .int (nI Kn))])) => ?_)
        refine lv_goto (tgt := 4) hx hb dX12_nextOrder_28 (by decide) ?_
        have hl : lv_has _ _ ([(2, .int (nI (k1 - 1))), (0, .ref h0), (1, .int (nI Kn))]) := lv_sub hl [0, 1, 2] rfl
        exact ih4 (k1 - 1) _ _ _ (by omega) (tuDs hBo hK8 hds (by omega) t_22) (by omega) hP hD hS hl
theorem dX12_tour_0 : decode cX12_tour 0 = .ok (.aload_n 0, 1) := dk_42 (by decide +kernel)
theorem dX12_tour_1 : decode cX12_tour 1 = .ok (.iload_n 1, 1) := dk_27 (by decide +kernel)
theorem dX12_tour_2 : decode cX12_tour 2 = .ok (.ifCond .lt 27, 3) := dk_155 (by decide +kernel)
theorem dX12_tour_5 : decode cX12_tour 5 = .ok (.iload_n 1, 1) := dk_27 (by decide +kernel)
theorem dX12_tour_6 : decode cX12_tour 6 = .ok (.sipush 4096, 3) := dk_17 (by decide +kernel)
theorem dX12_tour_9 : decode cX12_tour 9 = .ok (.if_icmp .ge 20, 3) := dk_162 (by decide +kernel)
theorem dX12_tour_12 : decode cX12_tour 12 = .ok (.iload_n 1, 1) := dk_27 (by decide +kernel)
theorem dX12_tour_13 : decode cX12_tour 13 = .ok (.invokestatic 1040, 3) := dk_184 (by decide +kernel)
theorem dX12_tour_16 : decode cX12_tour 16 = .ok (.iconst 2, 1) := dk_5 (by decide +kernel)
theorem dX12_tour_17 : decode cX12_tour 17 = .ok (.if_icmp .lt 12, 3) := dk_161 (by decide +kernel)
theorem dX12_tour_20 : decode cX12_tour 20 = .ok (.iload_n 1, 1) := dk_27 (by decide +kernel)
theorem dX12_tour_21 : decode cX12_tour 21 = .ok (.invokestatic 1040, 3) := dk_184 (by decide +kernel)
theorem dX12_tour_24 : decode cX12_tour 24 = .ok (.bipush 8, 2) := dk_16 (by decide +kernel)
theorem dX12_tour_26 : decode cX12_tour 26 = .ok (.if_icmp .le 7, 3) := dk_164 (by decide +kernel)
theorem dX12_tour_29 : decode cX12_tour 29 = .ok (.iconst 1, 1) := dk_4 (by decide +kernel)
theorem dX12_tour_30 : decode cX12_tour 30 = .ok (.goto 4, 3) := dk_167 (by decide +kernel)
theorem dX12_tour_33 : decode cX12_tour 33 = .ok (.iconst 0, 1) := dk_3 (by decide +kernel)
theorem dX12_tour_34 : decode cX12_tour 34 = .ok (.putfield 348, 3) := dk_181 (by decide +kernel)
theorem dX12_tour_37 : decode cX12_tour 37 = .ok (.aload_n 0, 1) := dk_42 (by decide +kernel)
theorem dX12_tour_38 : decode cX12_tour 38 = .ok (.getfield 348, 3) := dk_180 (by decide +kernel)
theorem dX12_tour_41 : decode cX12_tour 41 = .ok (.ifCond .le 5, 3) := dk_158 (by decide +kernel)
theorem dX12_tour_44 : decode cX12_tour 44 = .ok (.iconst 0, 1) := dk_3 (by decide +kernel)
theorem dX12_tour_45 : decode cX12_tour 45 = .ok (.ireturn, 1) := dk_172 (by decide +kernel)
theorem dX12_tour_46 : decode cX12_tour 46 = .ok (.iconst 0, 1) := dk_3 (by decide +kernel)
theorem dX12_tour_47 : decode cX12_tour 47 = .ok (.istore_n 3, 1) := dk_62 (by decide +kernel)
theorem dX12_tour_48 : decode cX12_tour 48 = .ok (.iconst 0, 1) := dk_3 (by decide +kernel)
theorem dX12_tour_49 : decode cX12_tour 49 = .ok (.istore 4, 2) := dk_54 (by decide +kernel)
theorem dX12_tour_51 : decode cX12_tour 51 = .ok (.iload 4, 2) := dk_21 (by decide +kernel)
theorem dX12_tour_53 : decode cX12_tour 53 = .ok (.bipush 12, 2) := dk_16 (by decide +kernel)
theorem dX12_tour_55 : decode cX12_tour 55 = .ok (.if_icmp .ge 39, 3) := dk_162 (by decide +kernel)
theorem dX12_tour_58 : decode cX12_tour 58 = .ok (.iload_n 1, 1) := dk_27 (by decide +kernel)
theorem dX12_tour_59 : decode cX12_tour 59 = .ok (.iload 4, 2) := dk_21 (by decide +kernel)
theorem dX12_tour_61 : decode cX12_tour 61 = .ok (.ishr, 1) := dk_122 (by decide +kernel)
theorem dX12_tour_62 : decode cX12_tour 62 = .ok (.iconst 1, 1) := dk_4 (by decide +kernel)
theorem dX12_tour_63 : decode cX12_tour 63 = .ok (.iand, 1) := dk_126 (by decide +kernel)
theorem dX12_tour_64 : decode cX12_tour 64 = .ok (.ifCond .ne 6, 3) := dk_154 (by decide +kernel)
theorem dX12_tour_67 : decode cX12_tour 67 = .ok (.goto 21, 3) := dk_167 (by decide +kernel)
theorem dX12_tour_70 : decode cX12_tour 70 = .ok (.aload_n 0, 1) := dk_42 (by decide +kernel)
theorem dX12_tour_71 : decode cX12_tour 71 = .ok (.getfield 339, 3) := dk_180 (by decide +kernel)
theorem dX12_tour_74 : decode cX12_tour 74 = .ok (.iload_n 3, 1) := dk_29 (by decide +kernel)
theorem dX12_tour_75 : decode cX12_tour 75 = .ok (.iload 4, 2) := dk_21 (by decide +kernel)
theorem dX12_tour_77 : decode cX12_tour 77 = .ok (.iastore, 1) := dk_79 (by decide +kernel)
theorem dX12_tour_78 : decode cX12_tour 78 = .ok (.aload_n 0, 1) := dk_42 (by decide +kernel)
theorem dX12_tour_79 : decode cX12_tour 79 = .ok (.getfield 342, 3) := dk_180 (by decide +kernel)
theorem dX12_tour_82 : decode cX12_tour 82 = .ok (.iload_n 3, 1) := dk_29 (by decide +kernel)
theorem dX12_tour_83 : decode cX12_tour 83 = .ok (.iload_n 3, 1) := dk_29 (by decide +kernel)
theorem dX12_tour_84 : decode cX12_tour 84 = .ok (.iastore, 1) := dk_79 (by decide +kernel)
theorem dX12_tour_85 : decode cX12_tour 85 = .ok (.iinc 3 1, 3) := dk_132 (by decide +kernel)
theorem dX12_tour_88 : decode cX12_tour 88 = .ok (.iinc 4 1, 3) := dk_132 (by decide +kernel)
theorem dX12_tour_91 : decode cX12_tour 91 = .ok (.goto (-40), 3) := dk_167 (by decide +kernel)
theorem dX12_tour_94 : decode cX12_tour 94 = .ok (.iconst (-1), 1) := dk_2 (by decide +kernel)
theorem dX12_tour_95 : decode cX12_tour 95 = .ok (.istore 4, 2) := dk_54 (by decide +kernel)
theorem dX12_tour_97 : decode cX12_tour 97 = .ok (.iconst 1, 1) := dk_4 (by decide +kernel)
theorem dX12_tour_98 : decode cX12_tour 98 = .ok (.istore 5, 2) := dk_54 (by decide +kernel)
theorem dX12_tour_100 : decode cX12_tour 100 = .ok (.iload 5, 2) := dk_21 (by decide +kernel)
theorem dX12_tour_102 : decode cX12_tour 102 = .ok (.ifCond .eq 77, 3) := dk_153 (by decide +kernel)
theorem dX12_tour_105 : decode cX12_tour 105 = .ok (.aload_n 0, 1) := dk_42 (by decide +kernel)
theorem dX12_tour_106 : decode cX12_tour 106 = .ok (.iload_n 3, 1) := dk_29 (by decide +kernel)
theorem dX12_tour_107 : decode cX12_tour 107 = .ok (.invokevirtual 1092, 3) := dk_182 (by decide +kernel)
theorem dX12_tour_110 : decode cX12_tour 110 = .ok (.istore 6, 2) := dk_54 (by decide +kernel)
theorem dX12_tour_112 : decode cX12_tour 112 = .ok (.iload 6, 2) := dk_21 (by decide +kernel)
theorem dX12_tour_114 : decode cX12_tour 114 = .ok (.iconst (-1), 1) := dk_2 (by decide +kernel)
theorem dX12_tour_115 : decode cX12_tour 115 = .ok (.if_icmp .eq 54, 3) := dk_159 (by decide +kernel)
theorem dX12_tour_118 : decode cX12_tour 118 = .ok (.iload 4, 2) := dk_21 (by decide +kernel)
theorem dX12_tour_120 : decode cX12_tour 120 = .ok (.iconst (-1), 1) := dk_2 (by decide +kernel)
theorem dX12_tour_121 : decode cX12_tour 121 = .ok (.if_icmp .eq 10, 3) := dk_159 (by decide +kernel)
theorem dX12_tour_124 : decode cX12_tour 124 = .ok (.iload 6, 2) := dk_21 (by decide +kernel)
theorem dX12_tour_126 : decode cX12_tour 126 = .ok (.iload 4, 2) := dk_21 (by decide +kernel)
theorem dX12_tour_128 : decode cX12_tour 128 = .ok (.if_icmp .ge 41, 3) := dk_162 (by decide +kernel)
theorem dX12_tour_131 : decode cX12_tour 131 = .ok (.iload 6, 2) := dk_21 (by decide +kernel)
theorem dX12_tour_133 : decode cX12_tour 133 = .ok (.istore 4, 2) := dk_54 (by decide +kernel)
theorem dX12_tour_135 : decode cX12_tour 135 = .ok (.iconst 0, 1) := dk_3 (by decide +kernel)
theorem dX12_tour_136 : decode cX12_tour 136 = .ok (.istore 7, 2) := dk_54 (by decide +kernel)
theorem dX12_tour_138 : decode cX12_tour 138 = .ok (.iload 7, 2) := dk_21 (by decide +kernel)
theorem dX12_tour_140 : decode cX12_tour 140 = .ok (.iload_n 3, 1) := dk_29 (by decide +kernel)
theorem dX12_tour_141 : decode cX12_tour 141 = .ok (.if_icmp .ge 28, 3) := dk_162 (by decide +kernel)
theorem dX12_tour_144 : decode cX12_tour 144 = .ok (.aload_n 0, 1) := dk_42 (by decide +kernel)
theorem dX12_tour_145 : decode cX12_tour 145 = .ok (.getfield 345, 3) := dk_180 (by decide +kernel)
theorem dX12_tour_148 : decode cX12_tour 148 = .ok (.iload 7, 2) := dk_21 (by decide +kernel)
theorem dX12_tour_150 : decode cX12_tour 150 = .ok (.aload_n 0, 1) := dk_42 (by decide +kernel)
theorem dX12_tour_151 : decode cX12_tour 151 = .ok (.getfield 339, 3) := dk_180 (by decide +kernel)
theorem dX12_tour_154 : decode cX12_tour 154 = .ok (.aload_n 0, 1) := dk_42 (by decide +kernel)
theorem dX12_tour_155 : decode cX12_tour 155 = .ok (.getfield 342, 3) := dk_180 (by decide +kernel)
theorem dX12_tour_158 : decode cX12_tour 158 = .ok (.iload 7, 2) := dk_21 (by decide +kernel)
theorem dX12_tour_160 : decode cX12_tour 160 = .ok (.iaload, 1) := dk_46 (by decide +kernel)
theorem dX12_tour_161 : decode cX12_tour 161 = .ok (.iaload, 1) := dk_46 (by decide +kernel)
theorem dX12_tour_162 : decode cX12_tour 162 = .ok (.iastore, 1) := dk_79 (by decide +kernel)
theorem dX12_tour_163 : decode cX12_tour 163 = .ok (.iinc 7 1, 3) := dk_132 (by decide +kernel)
theorem dX12_tour_166 : decode cX12_tour 166 = .ok (.goto (-28), 3) := dk_167 (by decide +kernel)
theorem dX12_tour_169 : decode cX12_tour 169 = .ok (.aload_n 0, 1) := dk_42 (by decide +kernel)
theorem dX12_tour_170 : decode cX12_tour 170 = .ok (.iload_n 3, 1) := dk_29 (by decide +kernel)
theorem dX12_tour_171 : decode cX12_tour 171 = .ok (.invokevirtual 1095, 3) := dk_182 (by decide +kernel)
theorem dX12_tour_174 : decode cX12_tour 174 = .ok (.istore 5, 2) := dk_54 (by decide +kernel)
theorem dX12_tour_176 : decode cX12_tour 176 = .ok (.goto (-76), 3) := dk_167 (by decide +kernel)
theorem dX12_tour_179 : decode cX12_tour 179 = .ok (.iload_n 2, 1) := dk_28 (by decide +kernel)
theorem dX12_tour_180 : decode cX12_tour 180 = .ok (.bipush (-2), 2) := dk_16 (by decide +kernel)
theorem dX12_tour_182 : decode cX12_tour 182 = .ok (.if_icmp .ne 6, 3) := dk_160 (by decide +kernel)
theorem dX12_tour_185 : decode cX12_tour 185 = .ok (.iload 4, 2) := dk_21 (by decide +kernel)
theorem dX12_tour_187 : decode cX12_tour 187 = .ok (.ireturn, 1) := dk_172 (by decide +kernel)
theorem dX12_tour_188 : decode cX12_tour 188 = .ok (.iload 4, 2) := dk_21 (by decide +kernel)
theorem dX12_tour_190 : decode cX12_tour 190 = .ok (.iconst (-1), 1) := dk_2 (by decide +kernel)
theorem dX12_tour_191 : decode cX12_tour 191 = .ok (.if_icmp .eq 12, 3) := dk_159 (by decide +kernel)
theorem dX12_tour_194 : decode cX12_tour 194 = .ok (.iload_n 2, 1) := dk_28 (by decide +kernel)
theorem dX12_tour_195 : decode cX12_tour 195 = .ok (.ifCond .lt 8, 3) := dk_155 (by decide +kernel)
theorem dX12_tour_198 : decode cX12_tour 198 = .ok (.iload_n 2, 1) := dk_28 (by decide +kernel)
theorem dX12_tour_199 : decode cX12_tour 199 = .ok (.iload_n 3, 1) := dk_29 (by decide +kernel)
theorem dX12_tour_200 : decode cX12_tour 200 = .ok (.if_icmp .lt 7, 3) := dk_161 (by decide +kernel)
theorem dX12_tour_203 : decode cX12_tour 203 = .ok (.iconst (-1), 1) := dk_2 (by decide +kernel)
theorem dX12_tour_204 : decode cX12_tour 204 = .ok (.goto 9, 3) := dk_167 (by decide +kernel)
theorem dX12_tour_207 : decode cX12_tour 207 = .ok (.aload_n 0, 1) := dk_42 (by decide +kernel)
theorem dX12_tour_208 : decode cX12_tour 208 = .ok (.getfield 345, 3) := dk_180 (by decide +kernel)
theorem dX12_tour_211 : decode cX12_tour 211 = .ok (.iload_n 2, 1) := dk_28 (by decide +kernel)
theorem dX12_tour_212 : decode cX12_tour 212 = .ok (.iaload, 1) := dk_46 (by decide +kernel)
theorem dX12_tour_213 : decode cX12_tour 213 = .ok (.ireturn, 1) := dk_172 (by decide +kernel)
def wsRX12_tour : List Cond := .code yX12_tour cX12_tour 8 (some .int) :: ([.fieldLink RX12 348 "OptimaWorksModel" "thrown" "I", .fieldLink RX12 345 "OptimaWorksModel" "tourBest" "[I", .fieldLink RX12 339 "OptimaWorksModel" "member1" "[I", .fieldLink RX12 342 "OptimaWorksModel" "order" "[I"] ++ wsX120 ++ (va_wsS RX12 1040 yX12_ones wsRonesa) ++ (wsV RX12 1092 RX12 yX12_tourCost wsRX12_tourCost) ++ (wsV RX12 1095 RX12 yX12_nextOrder wsRX12_nextOrder))
theorem iwsRX12_tour_in12 : ∀ w ∈ wsX120, w ∈ wsRX12_tour := fun _ h => List.mem_cons_of_mem _ (List.mem_append_left _ (List.mem_append_left _ (List.mem_append_left _ (List.mem_append_right _ h))))
theorem gwsRX12_tour_0 : GoodIn wsRX12_tour (va_wsS RX12 1040 yX12_ones wsRonesa) := goodIn_sub (fun _ h => List.mem_cons_of_mem _ (List.mem_append_left _ (List.mem_append_left _ (List.mem_append_right _ h)))) (gdS (by decide +kernel) gdwsRonesa)
theorem gwsRX12_tour_1 : GoodIn wsRX12_tour (wsV RX12 1092 RX12 yX12_tourCost wsRX12_tourCost) := goodIn_sub (fun _ h => List.mem_cons_of_mem _ (List.mem_append_left _ (List.mem_append_right _ h))) (gdV (by decide +kernel) gdwsRX12_tourCost)
theorem gwsRX12_tour_2 : GoodIn wsRX12_tour (wsV RX12 1095 RX12 yX12_nextOrder wsRX12_nextOrder) := goodIn_sub (fun _ h => List.mem_cons_of_mem _ (List.mem_append_right _ h)) (gdV (by decide +kernel) gdwsRX12_nextOrder)
theorem gdwsRX12_tour : wsRX12_tour.all goodWord = true := gdC rfl (gdA (gdA (gdA (gdA (by decide +kernel : ([.fieldLink RX12 348 "OptimaWorksModel" "thrown" "I", .fieldLink RX12 345 "OptimaWorksModel" "tourBest" "[I", .fieldLink RX12 339 "OptimaWorksModel" "member1" "[I", .fieldLink RX12 342 "OptimaWorksModel" "order" "[I"] : List Cond).all goodWord = true) gdwsX120) (gdS (by decide +kernel) gdwsRonesa)) (gdV (by decide +kernel) gdwsRX12_tourCost)) (gdV (by decide +kernel) gdwsRX12_nextOrder))
theorem hm_r_X12_tour_0 : (.fieldLink RX12 348 "OptimaWorksModel" "thrown" "I" : Cond) ∈ wsRX12_tour := by decide +kernel
theorem hm_r_X12_tour_1 : (.fieldLink RX12 345 "OptimaWorksModel" "tourBest" "[I" : Cond) ∈ wsRX12_tour := by decide +kernel
theorem hm_r_X12_tour_2 : (.fieldLink RX12 339 "OptimaWorksModel" "member1" "[I" : Cond) ∈ wsRX12_tour := by decide +kernel
theorem hm_r_X12_tour_3 : (.fieldLink RX12 342 "OptimaWorksModel" "order" "[I" : Cond) ∈ wsRX12_tour := by decide +kernel
set_option maxHeartbeats 4000000 in
set_option maxRecDepth 100000 in
/-- tour(set, i) -/
theorem r_X12_tour (l : Launch) (dC : Nat → ClassId) (dI : Nat → Nat → Nat) (a : Nat → Nat) (k : Nat → ClassId) (h0 : Nat) (vi : Nat → Int32) (vj : Nat → Int64) (vF : Nat → Nat → Int32) (vG : Nat → Nat → Int64) (sI : Int32) (iI : Int32) (ar : Nat) (har : vi 150 = nI ar) (har40 : ar ≤ 40) (hAr : ArO (vF 95) (vF 96) (vF 97) (vF 98) ar) (hB9o : Bo (vF 105)) (sz : Nat) : Met l yX12_tour wsRX12_tour ({ frames := 2, cells := 0, slots := 0, locals := 48 }) (va_Pc [.ref h0, .int sI, .int iI] (fun U => U.heap.size = sz ∧ va_P (dC, dI) vwCl (WR a k h0 vi vj vF vG) U.heap ∧ va_K (dC, dI) vwCl (tX12 k) U ∧ va_D (fun _ => True) (WR a k h0 vi vj vF vG))) (va_Qi (fun (r : Int32) (u : (Int32) × (Nat → Int32) × (Nat → Int32) × (Nat → Int32)) => ((Bo (u.2.2.1)) ∧ ((u.1) = 1) ∧ (¬ (0 ≤ (sI).toInt ∧ (sI).toInt ≤ 4095 ∧ 2 ≤ cntB (bI sI) 12 ∧ cntB (bI sI) 12 ≤ 8))) ∨ ((Bo (u.2.2.1)) ∧ ((u.1) = 0) ∧ ((0 ≤ (sI).toInt ∧ (sI).toInt ≤ 4095 ∧ 2 ≤ cntB (bI sI) 12 ∧ cntB (bI sI) 12 ≤ 8)) ∧ (tuA (((ar : Nat) : Int), vF 95, vF 96, vF 97, vF 98) (bI sI) (iI).toInt r.toInt))) (fun (u : (Int32) × (Nat → Int32) × (Nat → Int32) × (Nat → Int32)) t => va_P (dC, dI) vwCl (WR a k h0 (fT vi 0 (u.1)) vj (fT (fT (fT vF 104 (u.2.1)) 105 (u.2.2.1)) 106 (u.2.2.2)) vG) t.heap ∧ va_D (va_A (WR a k h0 vi vj vF vG) sz) (WR a k h0 (fT vi 0 (u.1)) vj (fT (fT (fT vF 104 (u.2.1)) 105 (u.2.2.1)) 106 (u.2.2.2)) vG)) (va_A (WR a k h0 vi vj vF vG) sz)) 0 0 (va_A (WR a k h0 vi vj vF vG) sz) := by
  refine Met.ofW (cc := cX12_tour) (maxL := 8) (ret := (some .int)) (by decide) rfl ?_
  intro p e s m args below meth c s₁ B hml hv
  obtain ⟨rfl, hsz, hP, hK, hD0⟩ := hv
  have hx := B.exec
  have hb := B.bytes
  have hr := B.returns
  have hts := atoms_spec (ws := wsRX12_tour) B.pre
  have hown : s.vm.findClass RX12 = some m.cls := findClass_of_methodNamed B.named
  have hlocks := B.notSynchronized
  subst hsz
  have hD := hD0.self (sz := s.heap.size)
  generalize hAe : va_A (WR a k h0 vi vj vF vG) s.heap.size = A at hD ⊢
  have hA : ∀ q : Nat, s.heap.size ≤ q → A q := fun q h => by rw [← hAe]; exact Or.inr h
  have hS : va_S A s.heap s.heap [] := va_S.rf
  have hl := lv_entry ([.ref h0, .int sI, .int iI]) (n := 8) (Nat.le_of_ble_eq_true rfl)
  rw [lg_entry_eq]
  generalize (lg_sl ([.ref h0, .int sI, .int iI]) ++ List.replicate (8 - (lg_sl ([.ref h0, .int sI, .int iI])).length) Slot.unset).toArray = ls at hl ⊢
  have hl : lv_has ls 8 [(0, .ref h0), (1, .int sI), (2, .int iI)] := hl
  refine lv_aload_n hx hb dX12_tour_0 rfl (lv_at hl 0 rfl) ?_
  refine lv_iload_n hx hb dX12_tour_1 rfl (lv_at hl 1 rfl) ?_
  refine lv_if_lt (tgt := 29) hx hb dX12_tour_2 (by decide) (fun c_2 => ?_) (fun c_2 => ?_)
  · have t_2 : (sI).toInt < 0 := toI_lt c_2 rfl (by decide)
    refine lv_iconst (v := 1) hx hb dX12_tour_29 (by decide) ?_
    refine lv_goto (tgt := 34) hx hb dX12_tour_30 (by decide) ?_
    refine va_put (D := (dC, dI)) (ci := 12) (v := .int 1) (ty := .int) (C := RX12) (T := TX12) (N := 163) (fs := fM (vS a vi vj)) hx hb hts iwsRX12_tour_in12 tyX12 tyX12_ok nmX12 hown hK hP hD hS 0 rfl rfl 0 (by decide) (hts _ hm_r_X12_tour_0) (fun _ h9 => h9) rfl (by decide +kernel) rfl rfl (Nat.le_of_ble_eq_true rfl) dX12_tour_34 (fun H locs hP hD hS => ?_)
    have hP : va_P (dC, dI) vwCl (WR a k h0 (fT vi 0 1) vj vF vG) H := fz_w (WR_i 0 _ rfl) hP
    have hD : va_D A (WR a k h0 (fT vi 0 1) vj vF vG) := fz_wD (WR_i 0 _ rfl) hD
    refine lv_aload_n hx hb dX12_tour_37 rfl (lv_at hl 0 rfl) ?_
    refine va_get (D := (dC, dI)) (ci := 12) (v := .int 1) (C := RX12) (T := TX12) (N := 163) (fs := fM (vS a (fT vi 0 1) vj)) hx hb hts iwsRX12_tour_in12 hown hK hP 0 rfl rfl 0 (by decide) (hts _ hm_r_X12_tour_0) (fun _ h9 => h9) rfl dX12_tour_38 ?_
    refine lv_if_le (tgt := 46) hx hb dX12_tour_41 (by decide) (fun c9 => absurd c9 (by decide)) (fun _ => ?_)
    refine lv_iconst (v := 0) hx hb dX12_tour_44 (by decide) ?_
    refine W.widen (k := 0) (n := 0) (by decide +kernel) (by decide +kernel) ?_
    have e9 : fT (fT (fT vF 104 (vF 104)) 105 (vF 105)) 106 (vF 106) = vF := (fT_id _ _ ((fT_ne _ _ (Nat.ne_of_beq_eq_false rfl)).trans (fT_ne _ _ (Nat.ne_of_beq_eq_false rfl)))).trans ((fT_id _ _ (fT_ne _ _ (Nat.ne_of_beq_eq_false rfl))).trans (fT_id _ _ (rfl)))
    have hP := wr_PF e9 hP
    have hD := wr_DF e9 hD
    clear e9
    exact W.iret (v := 0) hx hb hr (fun t9_ ht hW => ⟨⟨0, (1, (vF 104), (vF 105), (vF 106)), rfl, by (try dsimp only); exact Or.inl ⟨hB9o, rfl, fun h9 => by omega⟩, by rw [ht]; exact hP, hD⟩, hS.F ht⟩) hS.2.2 dX12_tour_45
  · have t_2 : ¬ (sI).toInt < 0 := toI_nlt c_2 rfl (by decide)
    refine lv_iload_n hx hb dX12_tour_5 rfl (lv_at hl 1 rfl) ?_
    refine lv_sipush (v := 4096) hx hb dX12_tour_6 (by decide) ?_
    refine lv_icmp_ge (tgt := 29) hx hb dX12_tour_9 (by decide) (fun c_9 => ?_) (fun c_9 => ?_)
    · have t_9 : (sI).toInt ≥ 4096 := toI_ge c_9 rfl (by decide)
      refine lv_iconst (v := 1) hx hb dX12_tour_29 (by decide) ?_
      refine lv_goto (tgt := 34) hx hb dX12_tour_30 (by decide) ?_
      refine va_put (D := (dC, dI)) (ci := 12) (v := .int 1) (ty := .int) (C := RX12) (T := TX12) (N := 163) (fs := fM (vS a vi vj)) hx hb hts iwsRX12_tour_in12 tyX12 tyX12_ok nmX12 hown hK hP hD hS 0 rfl rfl 0 (by decide) (hts _ hm_r_X12_tour_0) (fun _ h9 => h9) rfl (by decide +kernel) rfl rfl (Nat.le_of_ble_eq_true rfl) dX12_tour_34 (fun H locs hP hD hS => ?_)
      have hP : va_P (dC, dI) vwCl (WR a k h0 (fT vi 0 1) vj vF vG) H := fz_w (WR_i 0 _ rfl) hP
      have hD : va_D A (WR a k h0 (fT vi 0 1) vj vF vG) := fz_wD (WR_i 0 _ rfl) hD
      refine lv_aload_n hx hb dX12_tour_37 rfl (lv_at hl 0 rfl) ?_
      refine va_get (D := (dC, dI)) (ci := 12) (v := .int 1) (C := RX12) (T := TX12) (N := 163) (fs := fM (vS a (fT vi 0 1) vj)) hx hb hts iwsRX12_tour_in12 hown hK hP 0 rfl rfl 0 (by decide) (hts _ hm_r_X12_tour_0) (fun _ h9 => h9) rfl dX12_tour_38 ?_
      refine lv_if_le (tgt := 46) hx hb dX12_tour_41 (by decide) (fun c9 => absurd c9 (by decide)) (fun _ => ?_)
      refine lv_iconst (v := 0) hx hb dX12_tour_44 (by decide) ?_
      refine W.widen (k := 0) (n := 0) (by decide +kernel) (by decide +kernel) ?_
      have e9 : fT (fT (fT vF 104 (vF 104)) 105 (vF 105)) 106 (vF 106) = vF := (fT_id _ _ ((fT_ne _ _ (Nat.ne_of_beq_eq_false rfl)).trans (fT_ne _ _ (Nat.ne_of_beq_eq_false rfl)))).trans ((fT_id _ _ (fT_ne _ _ (Nat.ne_of_beq_eq_false rfl))).trans (fT_id _ _ (rfl)))
      have hP := wr_PF e9 hP
      have hD := wr_DF e9 hD
      clear e9
      exact W.iret (v := 0) hx hb hr (fun t9_ ht hW => ⟨⟨0, (1, (vF 104), (vF 105), (vF 106)), rfl, by (try dsimp only); exact Or.inl ⟨hB9o, rfl, fun h9 => by omega⟩, by rw [ht]; exact hP, hD⟩, hS.F ht⟩) hS.2.2 dX12_tour_45
    · have t_9 : ¬ (sI).toInt ≥ 4096 := toI_nge c_9 rfl (by decide)
      obtain ⟨nn, h_nn, rfl⟩ := of_toInt (x := sI) (k := 4096) (by omega) (by omega)
      have e_nn : (nI nn).toInt = (nn : Int) := nI_toInt (by omega)
      have hcl := cnt_le nn 12
      refine lv_iload_n hx hb dX12_tour_12 rfl (lv_at hl 1 rfl) ?_
      have hFc := noneFree hS hA
      refine va_calli (va_runS (As := [.int (nI nn)]) (rest := [.ref h0]) ⟨hx, hb, hml, hown, hts⟩ (r_X12_onesa l dC dI nn (by first | with_reducible assumption | decide | omega | rfl | assumption) s.heap.size) (va_cwS 1 hts gwsRX12_tour_0 rfl rfl rfl (by decide +kernel) ⟨by decide +kernel, by decide +kernel⟩) ⟨fun a U g mk q => by obtain ⟨q0, q1, qP, qK, qD⟩ := q; exact ⟨q0, q1, qP, va_K.moved (u := U) (U := U.calling g mk a) (Vm.Alike.refl U.vm) qK, qD⟩, fun U hU9 hW => ⟨rfl, by rw [hU9], by rw [hU9]; exact nilP, va_K.moved hW.alike (hK.sub (tys' := []) [] rfl), nilD⟩⟩ rfl rfl hl.1 rfl (lv_room (Nat.le_of_ble_eq_true rfl)) dX12_tour_13 (by decide +kernel)) hS (fun q _ h => hFc q h) hFc (fun r13 u t9_ H1 locs ht hvm hw9 hB9 hz1 hk1 hS => ?_)
      have hP := keepAll hP hk1
      clear hB9
      generalize H1 = H at hP hS ⊢
      have hP : va_P (dC, dI) vwCl (WR a k h0 vi vj vF vG) H := hP
      have hD := fz_sd hP (hD) rfl
      obtain rfl := hw9
      refine lv_iconst (v := 2) hx hb dX12_tour_16 (by decide) ?_
      refine lv_icmp_lt (tgt := 29) hx hb dX12_tour_17 (by decide) (fun c_17 => ?_) (fun c_17 => ?_)
      · have t_17 : (((cnt nn 12) : Nat) : Int) < 2 := toI_lt c_17 (nI_toInt (by omega)) (by decide)
        refine lv_iconst (v := 1) hx hb dX12_tour_29 (by decide) ?_
        refine lv_goto (tgt := 34) hx hb dX12_tour_30 (by decide) ?_
        refine va_put (D := (dC, dI)) (ci := 12) (v := .int 1) (ty := .int) (C := RX12) (T := TX12) (N := 163) (fs := fM (vS a vi vj)) hx hb hts iwsRX12_tour_in12 tyX12 tyX12_ok nmX12 hown hK hP hD hS 0 rfl rfl 0 (by decide) (hts _ hm_r_X12_tour_0) (fun _ h9 => h9) rfl (by decide +kernel) rfl rfl (Nat.le_of_ble_eq_true rfl) dX12_tour_34 (fun H locs hP hD hS => ?_)
        have hP : va_P (dC, dI) vwCl (WR a k h0 (fT vi 0 1) vj vF vG) H := fz_w (WR_i 0 _ rfl) hP
        have hD : va_D A (WR a k h0 (fT vi 0 1) vj vF vG) := fz_wD (WR_i 0 _ rfl) hD
        refine lv_aload_n hx hb dX12_tour_37 rfl (lv_at hl 0 rfl) ?_
        refine va_get (D := (dC, dI)) (ci := 12) (v := .int 1) (C := RX12) (T := TX12) (N := 163) (fs := fM (vS a (fT vi 0 1) vj)) hx hb hts iwsRX12_tour_in12 hown hK hP 0 rfl rfl 0 (by decide) (hts _ hm_r_X12_tour_0) (fun _ h9 => h9) rfl dX12_tour_38 ?_
        refine lv_if_le (tgt := 46) hx hb dX12_tour_41 (by decide) (fun c9 => absurd c9 (by decide)) (fun _ => ?_)
        refine lv_iconst (v := 0) hx hb dX12_tour_44 (by decide) ?_
        refine W.widen (k := 0) (n := 0) (by decide +kernel) (by decide +kernel) ?_
        have e9 : fT (fT (fT vF 104 (vF 104)) 105 (vF 105)) 106 (vF 106) = vF := (fT_id _ _ ((fT_ne _ _ (Nat.ne_of_beq_eq_false rfl)).trans (fT_ne _ _ (Nat.ne_of_beq_eq_false rfl)))).trans ((fT_id _ _ (fT_ne _ _ (Nat.ne_of_beq_eq_false rfl))).trans (fT_id _ _ (rfl)))
        have hP := wr_PF e9 hP
        have hD := wr_DF e9 hD
        clear e9
        exact W.iret (v := 0) hx hb hr (fun t9_ ht hW => ⟨⟨0, (1, (vF 104), (vF 105), (vF 106)), rfl, by (try dsimp only); exact Or.inl ⟨hB9o, rfl, fun h9 => by (have h8 := cnt_B (n := nn) (i := 12) (Nat.le_refl _)); omega⟩, by rw [ht]; exact hP, hD⟩, hS.F ht⟩) hS.2.2 dX12_tour_45
      · have t_17 : ¬ (((cnt nn 12) : Nat) : Int) < 2 := toI_nlt c_17 (nI_toInt (by omega)) (by decide)
        refine lv_iload_n hx hb dX12_tour_20 rfl (lv_at hl 1 rfl) ?_
        have hFc := noneFree hS hA
        refine va_calli (va_runS (As := [.int (nI nn)]) (rest := [.ref h0]) ⟨hx, hb, hml, hown, hts⟩ (r_X12_onesa l dC dI nn (by first | with_reducible assumption | decide | omega | rfl | assumption) H.size) (va_cwS 1 hts gwsRX12_tour_0 rfl rfl rfl (by decide +kernel) ⟨by decide +kernel, by decide +kernel⟩) ⟨fun a U g mk q => by obtain ⟨q0, q1, qP, qK, qD⟩ := q; exact ⟨q0, q1, qP, va_K.moved (u := U) (U := U.calling g mk a) (Vm.Alike.refl U.vm) qK, qD⟩, fun U hU9 hW => ⟨rfl, by rw [hU9], by rw [hU9]; exact nilP, va_K.moved hW.alike (hK.sub (tys' := []) [] rfl), nilD⟩⟩ rfl rfl hl.1 rfl (lv_room (Nat.le_of_ble_eq_true rfl)) dX12_tour_21 (by decide +kernel)) hS (fun q _ h => hFc q h) hFc (fun r21 u t9_ H1 locs ht hvm hw9 hB9 hz1 hk1 hS => ?_)
        have hP := keepAll hP hk1
        clear hB9
        generalize H1 = H at hP hS ⊢
        have hP : va_P (dC, dI) vwCl (WR a k h0 vi vj vF vG) H := hP
        have hD := fz_sd hP (hD) rfl
        obtain rfl := hw9
        refine lv_bipush (v := 8) hx hb dX12_tour_24 (by decide) ?_
        refine lv_icmp_le (tgt := 33) hx hb dX12_tour_26 (by decide) (fun c_26 => ?_) (fun c_26 => ?_)
        · have t_26 : (((cnt nn 12) : Nat) : Int) ≤ 8 := toI_le c_26 (nI_toInt (by omega)) (by decide)
          refine lv_iconst (v := 0) hx hb dX12_tour_33 (by decide) ?_
          refine va_put (D := (dC, dI)) (ci := 12) (v := .int 0) (ty := .int) (C := RX12) (T := TX12) (N := 163) (fs := fM (vS a vi vj)) hx hb hts iwsRX12_tour_in12 tyX12 tyX12_ok nmX12 hown hK hP hD hS 0 rfl rfl 0 (by decide) (hts _ hm_r_X12_tour_0) (fun _ h9 => h9) rfl (by decide +kernel) rfl rfl (Nat.le_of_ble_eq_true rfl) dX12_tour_34 (fun H locs hP hD hS => ?_)
          have hP : va_P (dC, dI) vwCl (WR a k h0 (fT vi 0 0) vj vF vG) H := fz_w (WR_i 0 _ rfl) hP
          have hD : va_D A (WR a k h0 (fT vi 0 0) vj vF vG) := fz_wD (WR_i 0 _ rfl) hD
          refine lv_aload_n hx hb dX12_tour_37 rfl (lv_at hl 0 rfl) ?_
          refine va_get (D := (dC, dI)) (ci := 12) (v := .int 0) (C := RX12) (T := TX12) (N := 163) (fs := fM (vS a (fT vi 0 0) vj)) hx hb hts iwsRX12_tour_in12 hown hK hP 0 rfl rfl 0 (by decide) (hts _ hm_r_X12_tour_0) (fun _ h9 => h9) rfl dX12_tour_38 ?_
          refine lv_if_le (tgt := 46) hx hb dX12_tour_41 (by decide) (fun _ => ?_) (fun c9 => absurd (by decide) c9)
          refine lv_iconst (v := 0) hx hb dX12_tour_46 (by decide) ?_
          refine lv_istore_n hx hb dX12_tour_47 rfl hl (by decide) rfl (fun ls (hl : lv_has ls _ ([(3, .int 0), (0, .ref h0), (1, .int (nI nn)), (2, .int iI)])) => ?_)
          refine lv_iconst (v := 0) hx hb dX12_tour_48 (by decide) ?_
          refine lv_istore hx hb dX12_tour_49 hl (by decide) rfl (fun ls (hl : lv_has ls _ ([(4, .int 0), (3, .int 0), (0, .ref h0), (1, .int (nI nn)), (2, .int iI)])) => ?_)
          have e9 : fT (fT vF 104 (vF 104)) 105 (vF 105) = vF := by funext q9; by_cases h9_104 : q9 = 104; (subst h9_104; exact ((fT_ne _ _ (Nat.ne_of_beq_eq_false rfl)).trans (fT_eq _ _ _)).trans (Eq.trans (by first | with_reducible rfl | with_reducible assumption | (symm; with_reducible assumption) | rfl | assumption | (symm; assumption) | (subst_vars; rfl)) (Eq.refl _).symm)); by_cases h9_105 : q9 = 105; (subst h9_105; exact (fT_eq _ _ _).trans (Eq.trans (by first | with_reducible rfl | with_reducible assumption | (symm; with_reducible assumption) | rfl | assumption | (symm; assumption) | (subst_vars; rfl)) (Eq.refl _).symm)); exact ((fT_ne _ _ h9_105).trans (fT_ne _ _ h9_104)).trans (Eq.refl _).symm
          have hP := wr_PF e9 hP
          have hD := wr_DF e9 hD
          clear e9
          have hl : lv_has _ _ ([(4, .int (nI 0)), (3, .int (nI 0)), (0, .ref h0), (1, .int (nI nn)), (2, .int iI)]) := lv_sub hl [0, 1, 2, 3, 4] rfl
          refine (fun (loop : ∀ (n9 : Nat) (i5 : Nat) (K5 : Nat) (gm : Nat → Int32) (go : Nat → Int32) (H : Heap) (locs : List Loc) (ls : Array Slot), (i5 ≤ 12) → (Bo go) → (K5 = cnt nn i5) → (∀ j, j < K5 → go j = nI j) → (∀ j, j < K5 → gm j = nI (tuK (bI (nI nn)) j)) →  (12 < i5 + n9) → va_P (dC, dI) vwCl (WR a k h0 (fT vi 0 0) vj (fT (fT vF 104 gm) 105 go) vG) H → va_D A (WR a k h0 (fT vi 0 0) vj (fT (fT vF 104 gm) 105 go) vG) → va_S A s.heap H locs → lv_has ls 8 [(4, .int (nI i5)), (3, .int (nI K5)), (0, .ref h0), (1, .int (nI nn)), (2, .int iI)] → W p l e _ s m _ below meth c H locs 0 0 _ (F0 m 51 ls [])) => loop (13) 0 0 (vF 104) (vF 105) _ _ _ (by omega) (hB9o) (rfl) (fun j h => absurd h (by omega)) (fun j h => absurd h (by omega)) (by omega) hP hD hS hl) ?_
          intro n9
          induction n9 with
          | zero => intro i5 K5 gm go H locs ls hi5 hB0 hKc hgo hgm hf9; exact False.elim (by omega)
          | succ n9 ih51 =>
            intro i5 K5 gm go H locs ls hi5 hB0 hKc hgo hgm hf51 hP hD hS hl
            refine lv_iload hx hb dX12_tour_51 (lv_at hl 0 rfl) ?_
            refine lv_bipush (v := 12) hx hb dX12_tour_53 (by decide) ?_
            refine lv_icmp_ge (tgt := 94) hx hb dX12_tour_55 (by decide) (fun c_55 => ?_) (fun c_55 => ?_)
            · have t_55 : ((i5 : Nat) : Int) ≥ 12 := toI_ge c_55 (nI_toInt (by omega)) (by decide)
              have ei5 : i5 = 12 := by omega
              have hK12 : K5 = cnt nn 12 := by rw [hKc, ei5]
              have hI0 : Io K5 go := fun i9 j9 hi9 hj9 e9 => by rw [hgo i9 hi9, hgo j9 hj9] at e9; exact (nI_eq (by omega) (by omega)).mp e9
              have hPP : tuP (fun x y => tuL (((ar : Nat) : Int), vF 95, vF 96, vF 97, vF 98) (tuK (bI (nI nn)) x) (tuK (bI (nI nn)) y) ar) := fun x y => tuL_r (ArO.val hAr) _ _ (Int.le_refl _)
              refine lv_iconst (v := (-1)) hx hb dX12_tour_94 (by decide) ?_
              refine lv_istore hx hb dX12_tour_95 hl (by decide) rfl (fun ls (hl : lv_has ls _ ([(4, .int (-1)), (3, .int (nI K5)), (0, .ref h0), (1, .int (nI nn)), (2, .int iI)])) => ?_)
              refine lv_iconst (v := 1) hx hb dX12_tour_97 (by decide) ?_
              refine lv_istore hx hb dX12_tour_98 hl (by decide) rfl (fun ls (hl : lv_has ls _ ([(5, .int 1), (4, .int (-1)), (3, .int (nI K5)), (0, .ref h0), (1, .int (nI nn)), (2, .int iI)])) => ?_)
              have e9 : fT (fT (fT vF 104 gm) 105 go) 106 (vF 106) = fT (fT vF 104 gm) 105 go := id_2 rfl
              have hP := wr_PF e9 hP
              have hD := wr_DF e9 hD
              clear e9
              have hl : lv_has _ _ ([(5, .int 1), (4, .int (-1)), (3, .int (nI K5)), (0, .ref h0), (2, .int iI)]) := lv_sub hl [0, 1, 2, 3, 5] rfl
              refine (fun (loop : ∀ (n9 : Nat) (be : Int32) (mo : Int32) (fo : Nat → Int32) (tbq : Nat → Int32) (H : Heap) (locs : List Loc) (ls : Array Slot), (Bo fo) → (Io K5 fo) → (∀ i, i < K5 → (fo i).toInt < ((K5 : Nat) : Int)) → ((fo 0).toInt = 0) → ((mo = 0 ∧ tuH (fun x y => tuL (((ar : Nat) : Int), vF 95, vF 96, vF 97, vF 98) (tuK (bI (nI nn)) x) (tuK (bI (nI nn)) y) ar) K5 (tuK (bI (nI nn))) (fun _ => True) (be).toInt (fun j => (tbq j).toInt)) ∨ (¬ mo = 0 ∧ tuH (fun x y => tuL (((ar : Nat) : Int), vF 95, vF 96, vF 97, vF 98) (tuK (bI (nI nn)) x) (tuK (bI (nI nn)) y) ar) K5 (tuK (bI (nI nn))) (fun p => tuLt K5 p (tuOf fo)) (be).toInt (fun j => (tbq j).toInt))) →  ((mo = 0 ∧ 0 < n9) ∨ 16777216 < Vo fo + (n9 : Int)) → va_P (dC, dI) vwCl (WR a k h0 (fT vi 0 0) vj (fT (fT (fT vF 104 gm) 105 fo) 106 tbq) vG) H → va_D A (WR a k h0 (fT vi 0 0) vj (fT (fT (fT vF 104 gm) 105 fo) 106 tbq) vG) → va_S A s.heap H locs → lv_has ls 8 [(5, .int mo), (4, .int be), (3, .int (nI K5)), (0, .ref h0), (2, .int iI)] → W p l e _ s m _ below meth c H locs 0 0 _ (F0 m 100 ls [])) => loop (16777217) (-1) 1 go (vF 106) _ _ _ (hB0) (hI0) (fun i hi => by rw [hgo i hi, nI_toInt (by omega)]; omega) (by rw [hgo 0 (by omega)]; rfl) (Or.inr ⟨by decide, tuH.start (fun j hj => by show (go j).toInt.toNat = j; rw [hgo j hj, nI_toInt (by omega)]; omega) (by decide)⟩) (by (have h9 := Vo_rng hB0); exact Or.inr (by omega)) hP hD hS hl) ?_
              intro n9
              induction n9 with
              | zero => intro be mo fo tbq H locs ls hBo hIo hRf hf0 hH hf9; exact False.elim (by (have h9 := Vo_rng hBo); omega)
              | succ n9 ih100_1 =>
                intro be mo fo tbq H locs ls hBo hIo hRf hf0 hH hf100_1 hP hD hS hl
                have hfx := hf100_1
                refine lv_iload hx hb dX12_tour_100 (lv_at hl 0 rfl) ?_
                refine lv_if_eq (tgt := 179) hx hb dX12_tour_102 (by decide) (fun c_102 => ?_) (fun c_102 => ?_)
                · have t_102 : (mo).toInt = 0 := toI_eq c_102 rfl (by decide)
                  have hHe := (hH.resolve_right (fun h => h.1 c_102)).2
                  have eK : K5 = cntB (bI (nI nn)) 12 := hK12.trans (cnt_B (Nat.le_refl _))
                  rw [eK] at hHe
                  refine lv_iload_n hx hb dX12_tour_179 rfl (lv_at hl 4 rfl) ?_
                  refine lv_bipush (v := (-2)) hx hb dX12_tour_180 (by decide) ?_
                  refine lv_icmp_ne (tgt := 188) hx hb dX12_tour_182 (by decide) (fun c_182 => ?_) (fun c_182 => ?_)
                  · have t_182 : (iI).toInt ≠ -2 := toI_ne c_182 rfl (by decide)
                    refine lv_iload hx hb dX12_tour_188 (lv_at hl 1 rfl) ?_
                    refine lv_iconst (v := (-1)) hx hb dX12_tour_190 (by decide) ?_
                    refine lv_icmp_eq (tgt := 203) hx hb dX12_tour_191 (by decide) (fun c_191 => ?_) (fun c_191 => ?_)
                    · have t_191 : (be).toInt = -1 := toI_eq c_191 rfl (by decide)
                      refine lv_iconst (v := (-1)) hx hb dX12_tour_203 (by decide) ?_
                      refine lv_goto (tgt := 213) hx hb dX12_tour_204 (by decide) ?_
                      refine W.widen (k := 0) (n := 0) (by decide +kernel) (by decide +kernel) ?_
                      exact W.iret (v := (-1)) hx hb hr (fun t9_ ht hW => ⟨⟨(-1), (0, gm, fo, tbq), rfl, by (try dsimp only); exact Or.inr ⟨hBo, rfl, ⟨by rw [nI_toInt (by omega)]; omega, by rw [nI_toInt (by omega)]; omega, by omega, by omega⟩, tuH.ans (ArO.val hAr) (by (try dsimp only); omega) hHe (Or.inr (Or.inl ⟨t_182, Or.inl t_191, by decide⟩))⟩, by rw [ht]; exact hP, hD⟩, hS.F ht⟩) hS.2.2 dX12_tour_213
                    · have t_191 : ¬ (be).toInt = -1 := toI_neq c_191 rfl (by decide)
                      refine lv_iload_n hx hb dX12_tour_194 rfl (lv_at hl 4 rfl) ?_
                      refine lv_if_lt (tgt := 203) hx hb dX12_tour_195 (by decide) (fun c_195 => ?_) (fun c_195 => ?_)
                      · have t_195 : (iI).toInt < 0 := toI_lt c_195 rfl (by decide)
                        refine lv_iconst (v := (-1)) hx hb dX12_tour_203 (by decide) ?_
                        refine lv_goto (tgt := 213) hx hb dX12_tour_204 (by decide) ?_
                        refine W.widen (k := 0) (n := 0) (by decide +kernel) (by decide +kernel) ?_
                        exact W.iret (v := (-1)) hx hb hr (fun t9_ ht hW => ⟨⟨(-1), (0, gm, fo, tbq), rfl, by (try dsimp only); exact Or.inr ⟨hBo, rfl, ⟨by rw [nI_toInt (by omega)]; omega, by rw [nI_toInt (by omega)]; omega, by omega, by omega⟩, tuH.ans (ArO.val hAr) (by (try dsimp only); omega) hHe (Or.inr (Or.inl ⟨t_182, Or.inr (Or.inl t_195), by decide⟩))⟩, by rw [ht]; exact hP, hD⟩, hS.F ht⟩) hS.2.2 dX12_tour_213
                      · have t_195 : ¬ (iI).toInt < 0 := toI_nlt c_195 rfl (by decide)
                        refine lv_iload_n hx hb dX12_tour_198 rfl (lv_at hl 4 rfl) ?_
                        refine lv_iload_n hx hb dX12_tour_199 rfl (lv_at hl 2 rfl) ?_
                        refine lv_icmp_lt (tgt := 207) hx hb dX12_tour_200 (by decide) (fun c_200 => ?_) (fun c_200 => ?_)
                        · have t_200 : (iI).toInt < ((K5 : Nat) : Int) := toI_lt c_200 rfl (nI_toInt (by omega))
                          refine lv_aload_n hx hb dX12_tour_207 rfl (lv_at hl 3 rfl) ?_
                          refine va_get (D := (dC, dI)) (ci := 12) (v := .ref (a 106)) (C := RX12) (T := TX12) (N := 163) (fs := fM (vS a (fT vi 0 0) vj)) hx hb hts iwsRX12_tour_in12 hown hK hP 0 rfl rfl 162 (by decide) (hts _ hm_r_X12_tour_1) (fun _ h9 => h9) rfl dX12_tour_208 ?_
                          refine lv_iload_n hx hb dX12_tour_211 rfl (lv_at hl 4 rfl) ?_
                          refine va_iald (cA := k 106) (n := 8) (f := tbq) hx hb hK hP 107 106 (WR_get 106 (by decide)) (TR_get 106 (by decide)) (vp_in_iff.mpr (by omega)) dX12_tour_212 ?_
                          refine W.widen (k := 0) (n := 0) (by decide +kernel) (by decide +kernel) ?_
                          exact W.iret (v := (tbq (iI).toNatClampNeg)) hx hb hr (fun t9_ ht hW => ⟨⟨(tbq (iI).toNatClampNeg), (0, gm, fo, tbq), rfl, by (try dsimp only); exact Or.inr ⟨hBo, rfl, ⟨by rw [nI_toInt (by omega)]; omega, by rw [nI_toInt (by omega)]; omega, by omega, by omega⟩, tuH.ans (ArO.val hAr) (by (try dsimp only); omega) hHe (Or.inr (Or.inr ⟨t_191, by omega, by omega, rfl⟩))⟩, by rw [ht]; exact hP, hD⟩, hS.F ht⟩) hS.2.2 dX12_tour_213
                        · have t_200 : ¬ (iI).toInt < ((K5 : Nat) : Int) := toI_nlt c_200 rfl (nI_toInt (by omega))
                          refine lv_iconst (v := (-1)) hx hb dX12_tour_203 (by decide) ?_
                          refine lv_goto (tgt := 213) hx hb dX12_tour_204 (by decide) ?_
                          refine W.widen (k := 0) (n := 0) (by decide +kernel) (by decide +kernel) ?_
                          exact W.iret (v := (-1)) hx hb hr (fun t9_ ht hW => ⟨⟨(-1), (0, gm, fo, tbq), rfl, by (try dsimp only); exact Or.inr ⟨hBo, rfl, ⟨by rw [nI_toInt (by omega)]; omega, by rw [nI_toInt (by omega)]; omega, by omega, by omega⟩, tuH.ans (ArO.val hAr) (by (try dsimp only); omega) hHe (Or.inr (Or.inl ⟨t_182, Or.inr (Or.inr (by omega)), by decide⟩))⟩, by rw [ht]; exact hP, hD⟩, hS.F ht⟩) hS.2.2 dX12_tour_213
                  · have t_182 : (iI).toInt = -2 := toI_nne c_182 rfl (by decide)
                    refine lv_iload hx hb dX12_tour_185 (lv_at hl 1 rfl) ?_
                    refine W.widen (k := 0) (n := 0) (by decide +kernel) (by decide +kernel) ?_
                    exact W.iret (v := be) hx hb hr (fun t9_ ht hW => ⟨⟨be, (0, gm, fo, tbq), rfl, by (try dsimp only); exact Or.inr ⟨hBo, rfl, ⟨by rw [nI_toInt (by omega)]; omega, by rw [nI_toInt (by omega)]; omega, by omega, by omega⟩, tuH.ans (ArO.val hAr) (by (try dsimp only); omega) hHe (Or.inl ⟨t_182, rfl⟩)⟩, by rw [ht]; exact hP, hD⟩, hS.F ht⟩) hS.2.2 dX12_tour_187
                · have t_102 : ¬ (mo).toInt = 0 := toI_neq c_102 rfl (by decide)
                  have hHb := (hH.resolve_left (fun h => c_102 h.1)).2
                  have hV : tuV K5 (tuOf fo) := tuOf_v hBo (by omega) hIo hRf hf0
                  refine lv_aload_n hx hb dX12_tour_105 rfl (lv_at hl 3 rfl) ?_
                  refine lv_iload_n hx hb dX12_tour_106 rfl (lv_at hl 2 rfl) ?_
                  have hFc := allFree hD hS hA
                  refine va_calli (va_runV (As := [.int (nI K5)]) (rest := []) ⟨hx, hb, hml, hown, hts⟩ (r_X12_tourCost l dC dI a k h0 (fT vi 0 0) vj (fT (fT (fT vF 104 gm) 105 fo) 106 tbq) vG (bI (nI nn)) K5 ar (by first | with_reducible assumption | decide | omega | rfl | assumption) (by first | with_reducible assumption | decide | omega | rfl | assumption) har (by first | with_reducible assumption | decide | omega | rfl | assumption) (by first | with_reducible assumption | decide | omega | rfl | assumption) (hBo) (hgm) (hRf) H.size) (cwV 1 hts gwsRX12_tour_1 rfl rfl rfl hd_yX12_tourCost_RX12 (by decide +kernel)) (fz_pre (va_recv hK hP (ci := 12) (q0 := 0) rfl rfl) hP hK hD) rfl rfl hl.1 rfl (lv_room (Nat.le_of_ble_eq_true rfl)) dX12_tour_107 (by decide +kernel)) hS (fun q _ h => hFc q h) hFc (fun r107 u t9_ H locs ht hvm hw9 hB9 hz1 hk1 hS => ?_)
                  have hP : va_P (dC, dI) vwCl (WR a k h0 (fT vi 0 0) vj (fT (fT (fT vF 104 gm) 105 fo) 106 tbq) vG) H := fz_P ht hB9.1
                  have hD := fz_sd hP (hB9.2.weaken (fun _ q _ h => hFc q.1 h)) rfl
                  have f107_0 := hw9
                  try dsimp only at f107_0
                  have f107_0 : (r107.toInt = -1 ∧ ¬ tuC (fun x y => tuL (((ar : Nat) : Int), (vF 95), (vF 96), (vF 97), (vF 98)) (tuK (bI (nI nn)) x) (tuK (bI (nI nn)) y) ar) K5 (tuOf fo) K5 < 536870912) ∨ (¬ r107.toInt = -1 ∧ r107.toInt = tuC (fun x y => tuL (((ar : Nat) : Int), (vF 95), (vF 96), (vF 97), (vF 98)) (tuK (bI (nI nn)) x) (tuK (bI (nI nn)) y) ar) K5 (tuOf fo) K5 ∧ tuC (fun x y => tuL (((ar : Nat) : Int), (vF 95), (vF 96), (vF 97), (vF 98)) (tuK (bI (nI nn)) x) (tuK (bI (nI nn)) y) ar) K5 (tuOf fo) K5 < 536870912) := f107_0
                  refine lv_istore hx hb dX12_tour_110 hl (by decide) rfl (fun ls (hl : lv_has ls _ ([(6, .int r107), (5, .int mo), (4, .int be), (3, .int (nI K5)), (0, .ref h0), (2, .int iI)])) => ?_)
                  refine lv_iload hx hb dX12_tour_112 (lv_at hl 0 rfl) ?_
                  refine lv_iconst (v := (-1)) hx hb dX12_tour_114 (by decide) ?_
                  refine W.cut (pc := 169) (fun H locs ls stk => ∃ (be2 : Int32) (tb2 : Nat → Int32), (tuH (fun x y => tuL (((ar : Nat) : Int), vF 95, vF 96, vF 97, vF 98) (tuK (bI (nI nn)) x) (tuK (bI (nI nn)) y) ar) K5 (tuK (bI (nI nn))) (tuD K5 (tuOf fo)) (be2).toInt (fun j => (tb2 j).toInt)) ∧  stk = [] ∧ va_P (dC, dI) vwCl (WR a k h0 (fT vi 0 0) vj (fT (fT (fT vF 104 gm) 105 fo) 106 tb2) vG) H ∧ va_D A (WR a k h0 (fT vi 0 0) vj (fT (fT (fT vF 104 gm) 105 fo) 106 tb2) vG) ∧ va_S A s.heap H locs ∧ lv_has ls 8 [(5, .int mo), (4, .int be2), (3, .int (nI K5)), (0, .ref h0), (2, .int iI)]) (fun join1 => ?_) ?_
                  · refine lv_icmp_eq (tgt := 169) hx hb dX12_tour_115 (by decide) (fun c_115 => ?_) (fun c_115 => ?_)
                    · have t_115 : (r107).toInt = -1 := toI_eq c_115 rfl (by decide)
                      have hl : lv_has _ _ ([(5, .int mo), (4, .int be), (3, .int (nI K5)), (0, .ref h0), (2, .int iI)]) := lv_sub hl [1, 2, 3, 4, 5] rfl
                      exact join1 _ _ _ _ ⟨be, tbq, tuH.far (by omega) hHb (f107_0.elim (fun h => h.2) (fun h => absurd t_115 h.1)), rfl, hP, hD, hS, hl⟩
                    · have t_115 : ¬ (r107).toInt = -1 := toI_neq c_115 rfl (by decide)
                      refine lv_iload hx hb dX12_tour_118 (lv_at hl 2 rfl) ?_
                      refine lv_iconst (v := (-1)) hx hb dX12_tour_120 (by decide) ?_
                      refine lv_icmp_eq (tgt := 131) hx hb dX12_tour_121 (by decide) (fun c_121 => ?_) (fun c_121 => ?_)
                      · have t_121 : (be).toInt = -1 := toI_eq c_121 rfl (by decide)
                        refine lv_iload hx hb dX12_tour_131 (lv_at hl 0 rfl) ?_
                        refine lv_istore hx hb dX12_tour_133 hl (by decide) rfl (fun ls (hl : lv_has ls _ ([(4, .int r107), (6, .int r107), (5, .int mo), (3, .int (nI K5)), (0, .ref h0), (2, .int iI)])) => ?_)
                        refine lv_iconst (v := 0) hx hb dX12_tour_135 (by decide) ?_
                        refine lv_istore hx hb dX12_tour_136 hl (by decide) rfl (fun ls (hl : lv_has ls _ ([(7, .int 0), (4, .int r107), (6, .int r107), (5, .int mo), (3, .int (nI K5)), (0, .ref h0), (2, .int iI)])) => ?_)
                        have hl : lv_has _ _ ([(5, .int mo), (4, .int r107), (3, .int (nI K5)), (0, .ref h0), (2, .int iI), (7, .int (nI 0))]) := lv_sub hl [3, 1, 4, 5, 6, 0] rfl
                        refine (fun (loop : ∀ (n9 : Nat) (k7 : Nat) (tb : Nat → Int32) (H : Heap) (locs : List Loc) (ls : Array Slot), (k7 ≤ K5) → (∀ j, j < k7 → tb j = nI (tuK (bI (nI nn)) (tuOf fo j))) →  (K5 < k7 + n9) → va_P (dC, dI) vwCl (WR a k h0 (fT vi 0 0) vj (fT (fT (fT vF 104 gm) 105 fo) 106 tb) vG) H → va_D A (WR a k h0 (fT vi 0 0) vj (fT (fT (fT vF 104 gm) 105 fo) 106 tb) vG) → va_S A s.heap H locs → lv_has ls 8 [(5, .int mo), (4, .int r107), (3, .int (nI K5)), (0, .ref h0), (2, .int iI), (7, .int (nI k7))] → W p l e _ s m _ below meth c H locs 0 0 _ (F0 m 138 ls [])) => loop (K5 + 1) 0 tbq _ _ _ (by omega) (fun j h => absurd h (by omega)) (by omega) hP hD hS hl) ?_
                        intro n9
                        induction n9 with
                        | zero => intro k7 tb H locs ls hk7 htb hf9; exact False.elim (by omega)
                        | succ n9 ih138_2 =>
                          intro k7 tb H locs ls hk7 htb hf138_2 hP hD hS hl
                          refine lv_iload hx hb dX12_tour_138 (lv_at hl 5 rfl) ?_
                          refine lv_iload_n hx hb dX12_tour_140 rfl (lv_at hl 2 rfl) ?_
                          refine lv_icmp_ge (tgt := 169) hx hb dX12_tour_141 (by decide) (fun c_141 => ?_) (fun c_141 => ?_)
                          · have t_141 : ((k7 : Nat) : Int) ≥ ((K5 : Nat) : Int) := toI_ge c_141 (nI_toInt (by omega)) (nI_toInt (by omega))
                            have hl : lv_has _ _ ([(5, .int mo), (4, .int r107), (3, .int (nI K5)), (0, .ref h0), (2, .int iI)]) := lv_sub hl [0, 1, 2, 3, 4] rfl
                            exact join1 _ _ _ _ ⟨r107, tb, tuH.less hPP (by omega) hV hHb (f107_0.resolve_left (fun h => t_115 h.1)).2.1 (by (have h9 := f107_0.resolve_left (fun h => t_115 h.1)); omega) (Or.inl t_121) (fun j hj => by rw [htb j (by omega), nI_toInt (by (have h9 := tuK_lt (bI (nI nn)) (tuOf fo j)); omega)]), rfl, hP, hD, hS, hl⟩
                          · have t_141 : ¬ ((k7 : Nat) : Int) ≥ ((K5 : Nat) : Int) := toI_nge c_141 (nI_toInt (by omega)) (nI_toInt (by omega))
                            refine lv_aload_n hx hb dX12_tour_144 rfl (lv_at hl 3 rfl) ?_
                            refine va_get (D := (dC, dI)) (ci := 12) (v := .ref (a 106)) (C := RX12) (T := TX12) (N := 163) (fs := fM (vS a (fT vi 0 0) vj)) hx hb hts iwsRX12_tour_in12 hown hK hP 0 rfl rfl 162 (by decide) (hts _ hm_r_X12_tour_1) (fun _ h9 => h9) rfl dX12_tour_145 ?_
                            refine lv_iload hx hb dX12_tour_148 (lv_at hl 5 rfl) ?_
                            refine lv_aload_n hx hb dX12_tour_150 rfl (lv_at hl 3 rfl) ?_
                            refine va_get (D := (dC, dI)) (ci := 12) (v := .ref (a 104)) (C := RX12) (T := TX12) (N := 163) (fs := fM (vS a (fT vi 0 0) vj)) hx hb hts iwsRX12_tour_in12 hown hK hP 0 rfl rfl 160 (by decide) (hts _ hm_r_X12_tour_2) (fun _ h9 => h9) rfl dX12_tour_151 ?_
                            refine lv_aload_n hx hb dX12_tour_154 rfl (lv_at hl 3 rfl) ?_
                            refine va_get (D := (dC, dI)) (ci := 12) (v := .ref (a 105)) (C := RX12) (T := TX12) (N := 163) (fs := fM (vS a (fT vi 0 0) vj)) hx hb hts iwsRX12_tour_in12 hown hK hP 0 rfl rfl 161 (by decide) (hts _ hm_r_X12_tour_3) (fun _ h9 => h9) rfl dX12_tour_155 ?_
                            refine lv_iload hx hb dX12_tour_158 (lv_at hl 5 rfl) ?_
                            refine va_iald (cA := k 105) (n := 8) (f := fo) hx hb hK hP 106 105 (WR_get 105 (by decide)) (TR_get 105 (by decide)) (vp_in_nI (show k7 < 8 by omega) (by omega)) dX12_tour_160 ?_
                            refine lv_topi (fun y1 hy1 => ?_)
                            obtain rfl : (fo k7) = y1 := (hy1.trans (by rw [nI_clamp (by omega)])).symm
                            refine va_iald (cA := k 104) (n := 8) (f := gm) hx hb hK hP 105 104 (WR_get 104 (by decide)) (TR_get 104 (by decide)) (vp_in_iff.mpr (by have h9 := hBo k7 (by omega); omega)) dX12_tour_161 ?_
                            refine lv_topi (fun y2 hy2 => ?_)
                            obtain rfl : (nI (tuK (bI (nI nn)) (tuOf fo k7))) = y2 := (hy2.trans (hgm (fo k7).toInt.toNat (by have h9 := hRf k7 (by omega); have h8 := hBo k7 (by omega); omega))).symm
                            refine va_iast (cA := k 106) (n := 8) (f := tb) hx hb hK hP hD hS 107 106 (WR_get 106 (by decide)) (TR_get 106 (by decide)) (vp_in_nI (show k7 < 8 by omega) (by omega)) dX12_tour_162 (fun H locs hP hD hS => ?_)
                            have e9 : fT (fT (fT vF 104 gm) 105 fo) 106 (upd tb ((nI k7)).toNatClampNeg (nI (tuK (bI (nI nn)) (tuOf fo k7)))) = fT (fT (fT (fT vF 104 gm) 105 fo) 106 tb) 106 (upd tb ((nI k7)).toNatClampNeg (nI (tuK (bI (nI nn)) (tuOf fo k7)))) := (fT_sm _ _ _ _).symm
                            have hP := wr_PF e9 (fz_w (WR_F 106 (by decide) _ rfl) hP)
                            have hD := wr_DF e9 (fz_wD (WR_F 106 (by decide) _ rfl) hD)
                            clear e9
                            refine lv_iinc (v := (nI (k7 + 1))) hx hb dX12_tour_163 hl (k := 5) rfl (nI_add k7 1) (by decide) rfl (fun ls (hl : lv_has ls _ ([(7, .int (nI (k7 + 1))), (5, .int mo), (4, .int r107), (3, .int (nI K5)), (0, .ref h0), (2, .int iI)])) => ?_)
                            refine lv_goto (tgt := 138) hx hb dX12_tour_166 (by decide) ?_
                            have hl : lv_has _ _ ([(5, .int mo), (4, .int r107), (3, .int (nI K5)), (0, .ref h0), (2, .int iI), (7, .int (nI (k7 + 1)))]) := lv_sub hl [1, 2, 3, 4, 5, 0] rfl
                            exact ih138_2 (k7 + 1) (upd tb ((nI k7)).toNatClampNeg (nI (tuK (bI (nI nn)) (tuOf fo k7)))) _ _ _ (by omega) (fun j hj => by rw [upd_at (by omega)]; by_cases e9 : j = k7; (rw [if_pos e9, e9]); (rw [if_neg e9]; exact htb j (by omega))) (by omega) hP hD hS hl
                      · have t_121 : ¬ (be).toInt = -1 := toI_neq c_121 rfl (by decide)
                        refine lv_iload hx hb dX12_tour_124 (lv_at hl 0 rfl) ?_
                        refine lv_iload hx hb dX12_tour_126 (lv_at hl 2 rfl) ?_
                        refine lv_icmp_ge (tgt := 169) hx hb dX12_tour_128 (by decide) (fun c_128 => ?_) (fun c_128 => ?_)
                        · have t_128 : (r107).toInt ≥ (be).toInt := toI_ge c_128 rfl rfl
                          have hl : lv_has _ _ ([(5, .int mo), (4, .int be), (3, .int (nI K5)), (0, .ref h0), (2, .int iI)]) := lv_sub hl [1, 2, 3, 4, 5] rfl
                          exact join1 _ _ _ _ ⟨be, tbq, tuH.more (by omega) hHb t_121 (by (have h9 := (f107_0.resolve_left (fun h => t_115 h.1)).2.1); omega), rfl, hP, hD, hS, hl⟩
                        · have t_128 : ¬ (r107).toInt ≥ (be).toInt := toI_nge c_128 rfl rfl
                          refine lv_iload hx hb dX12_tour_131 (lv_at hl 0 rfl) ?_
                          refine lv_istore hx hb dX12_tour_133 hl (by decide) rfl (fun ls (hl : lv_has ls _ ([(4, .int r107), (6, .int r107), (5, .int mo), (3, .int (nI K5)), (0, .ref h0), (2, .int iI)])) => ?_)
                          refine lv_iconst (v := 0) hx hb dX12_tour_135 (by decide) ?_
                          refine lv_istore hx hb dX12_tour_136 hl (by decide) rfl (fun ls (hl : lv_has ls _ ([(7, .int 0), (4, .int r107), (6, .int r107), (5, .int mo), (3, .int (nI K5)), (0, .ref h0), (2, .int iI)])) => ?_)
                          have hl : lv_has _ _ ([(5, .int mo), (4, .int r107), (3, .int (nI K5)), (0, .ref h0), (2, .int iI), (7, .int (nI 0))]) := lv_sub hl [3, 1, 4, 5, 6, 0] rfl
                          refine (fun (loop : ∀ (n9 : Nat) (k7 : Nat) (tb : Nat → Int32) (H : Heap) (locs : List Loc) (ls : Array Slot), (k7 ≤ K5) → (∀ j, j < k7 → tb j = nI (tuK (bI (nI nn)) (tuOf fo j))) →  (K5 < k7 + n9) → va_P (dC, dI) vwCl (WR a k h0 (fT vi 0 0) vj (fT (fT (fT vF 104 gm) 105 fo) 106 tb) vG) H → va_D A (WR a k h0 (fT vi 0 0) vj (fT (fT (fT vF 104 gm) 105 fo) 106 tb) vG) → va_S A s.heap H locs → lv_has ls 8 [(5, .int mo), (4, .int r107), (3, .int (nI K5)), (0, .ref h0), (2, .int iI), (7, .int (nI k7))] → W p l e _ s m _ below meth c H locs 0 0 _ (F0 m 138 ls [])) => loop (K5 + 1) 0 tbq _ _ _ (by omega) (fun j h => absurd h (by omega)) (by omega) hP hD hS hl) ?_
                          intro n9
                          induction n9 with
                          | zero => intro k7 tb H locs ls hk7 htb hf9; exact False.elim (by omega)
                          | succ n9 ih138_3 =>
                            intro k7 tb H locs ls hk7 htb hf138_3 hP hD hS hl
                            refine lv_iload hx hb dX12_tour_138 (lv_at hl 5 rfl) ?_
                            refine lv_iload_n hx hb dX12_tour_140 rfl (lv_at hl 2 rfl) ?_
                            refine lv_icmp_ge (tgt := 169) hx hb dX12_tour_141 (by decide) (fun c_141 => ?_) (fun c_141 => ?_)
                            · have t_141 : ((k7 : Nat) : Int) ≥ ((K5 : Nat) : Int) := toI_ge c_141 (nI_toInt (by omega)) (nI_toInt (by omega))
                              have hl : lv_has _ _ ([(5, .int mo), (4, .int r107), (3, .int (nI K5)), (0, .ref h0), (2, .int iI)]) := lv_sub hl [0, 1, 2, 3, 4] rfl
                              exact join1 _ _ _ _ ⟨r107, tb, tuH.less hPP (by omega) hV hHb (f107_0.resolve_left (fun h => t_115 h.1)).2.1 (by (have h9 := f107_0.resolve_left (fun h => t_115 h.1)); omega) (Or.inr (by omega)) (fun j hj => by rw [htb j (by omega), nI_toInt (by (have h9 := tuK_lt (bI (nI nn)) (tuOf fo j)); omega)]), rfl, hP, hD, hS, hl⟩
                            · have t_141 : ¬ ((k7 : Nat) : Int) ≥ ((K5 : Nat) : Int) := toI_nge c_141 (nI_toInt (by omega)) (nI_toInt (by omega))
                              refine lv_aload_n hx hb dX12_tour_144 rfl (lv_at hl 3 rfl) ?_
                              refine va_get (D := (dC, dI)) (ci := 12) (v := .ref (a 106)) (C := RX12) (T := TX12) (N := 163) (fs := fM (vS a (fT vi 0 0) vj)) hx hb hts iwsRX12_tour_in12 hown hK hP 0 rfl rfl 162 (by decide) (hts _ hm_r_X12_tour_1) (fun _ h9 => h9) rfl dX12_tour_145 ?_
                              refine lv_iload hx hb dX12_tour_148 (lv_at hl 5 rfl) ?_
                              refine lv_aload_n hx hb dX12_tour_150 rfl (lv_at hl 3 rfl) ?_
                              refine va_get (D := (dC, dI)) (ci := 12) (v := .ref (a 104)) (C := RX12) (T := TX12) (N := 163) (fs := fM (vS a (fT vi 0 0) vj)) hx hb hts iwsRX12_tour_in12 hown hK hP 0 rfl rfl 160 (by decide) (hts _ hm_r_X12_tour_2) (fun _ h9 => h9) rfl dX12_tour_151 ?_
                              refine lv_aload_n hx hb dX12_tour_154 rfl (lv_at hl 3 rfl) ?_
                              refine va_get (D := (dC, dI)) (ci := 12) (v := .ref (a 105)) (C := RX12) (T := TX12) (N := 163) (fs := fM (vS a (fT vi 0 0) vj)) hx hb hts iwsRX12_tour_in12 hown hK hP 0 rfl rfl 161 (by decide) (hts _ hm_r_X12_tour_3) (fun _ h9 => h9) rfl dX12_tour_155 ?_
                              refine lv_iload hx hb dX12_tour_158 (lv_at hl 5 rfl) ?_
                              refine va_iald (cA := k 105) (n := 8) (f := fo) hx hb hK hP 106 105 (WR_get 105 (by decide)) (TR_get 105 (by decide)) (vp_in_nI (show k7 < 8 by omega) (by omega)) dX12_tour_160 ?_
                              refine lv_topi (fun y3 hy3 => ?_)
                              obtain rfl : (fo k7) = y3 := (hy3.trans (by rw [nI_clamp (by omega)])).symm
                              refine va_iald (cA := k 104) (n := 8) (f := gm) hx hb hK hP 105 104 (WR_get 104 (by decide)) (TR_get 104 (by decide)) (vp_in_iff.mpr (by have h9 := hBo k7 (by omega); omega)) dX12_tour_161 ?_
                              refine lv_topi (fun y4 hy4 => ?_)
                              obtain rfl : (nI (tuK (bI (nI nn)) (tuOf fo k7))) = y4 := (hy4.trans (hgm (fo k7).toInt.toNat (by have h9 := hRf k7 (by omega); have h8 := hBo k7 (by omega); omega))).symm
                              refine va_iast (cA := k 106) (n := 8) (f := tb) hx hb hK hP hD hS 107 106 (WR_get 106 (by decide)) (TR_get 106 (by decide)) (vp_in_nI (show k7 < 8 by omega) (by omega)) dX12_tour_162 (fun H locs hP hD hS => ?_)
                              have e9 : fT (fT (fT vF 104 gm) 105 fo) 106 (upd tb ((nI k7)).toNatClampNeg (nI (tuK (bI (nI nn)) (tuOf fo k7)))) = fT (fT (fT (fT vF 104 gm) 105 fo) 106 tb) 106 (upd tb ((nI k7)).toNatClampNeg (nI (tuK (bI (nI nn)) (tuOf fo k7)))) := (fT_sm _ _ _ _).symm
                              have hP := wr_PF e9 (fz_w (WR_F 106 (by decide) _ rfl) hP)
                              have hD := wr_DF e9 (fz_wD (WR_F 106 (by decide) _ rfl) hD)
                              clear e9
                              refine lv_iinc (v := (nI (k7 + 1))) hx hb dX12_tour_163 hl (k := 5) rfl (nI_add k7 1) (by decide) rfl (fun ls (hl : lv_has ls _ ([(7, .int (nI (k7 + 1))), (5, .int mo), (4, .int r107), (3, .int (nI K5)), (0, .ref h0), (2, .int iI)])) => ?_)
                              refine lv_goto (tgt := 138) hx hb dX12_tour_166 (by decide) ?_
                              have hl : lv_has _ _ ([(5, .int mo), (4, .int r107), (3, .int (nI K5)), (0, .ref h0), (2, .int iI), (7, .int (nI (k7 + 1)))]) := lv_sub hl [1, 2, 3, 4, 5, 0] rfl
                              exact ih138_3 (k7 + 1) (upd tb ((nI k7)).toNatClampNeg (nI (tuK (bI (nI nn)) (tuOf fo k7)))) _ _ _ (by omega) (fun j hj => by rw [upd_at (by omega)]; by_cases e9 : j = k7; (rw [if_pos e9, e9]); (rw [if_neg e9]; exact htb j (by omega))) (by omega) hP hD hS hl
                  · rintro H locs ls stk ⟨be2, tb2, hH2, rfl, hP, hD, hS, hl⟩
                    refine lv_aload_n hx hb dX12_tour_169 rfl (lv_at hl 3 rfl) ?_
                    refine lv_iload_n hx hb dX12_tour_170 rfl (lv_at hl 2 rfl) ?_
                    have hFc := allFree hD hS hA
                    refine va_calli (va_runV (As := [.int (nI K5)]) (rest := []) ⟨hx, hb, hml, hown, hts⟩ (r_X12_nextOrder l dC dI a k h0 (fT vi 0 0) vj (fT (fT (fT vF 104 gm) 105 fo) 106 tb2) vG K5 (by first | with_reducible assumption | decide | omega | rfl | assumption) (by first | with_reducible assumption | decide | omega | rfl | assumption) (hBo) (hIo) (hRf) H.size) (cwV 1 hts gwsRX12_tour_2 rfl rfl rfl hd_yX12_nextOrder_RX12 (by decide +kernel)) (fz_pre (va_recv hK hP (ci := 12) (q0 := 0) rfl rfl) hP hK hD) rfl rfl hl.1 rfl (lv_room (Nat.le_of_ble_eq_true rfl)) dX12_tour_171 (by decide +kernel)) hS (fun q _ h => hFc q h) hFc (fun r171 g171 t9_ H locs ht hvm hw9 hB9 hz1 hk1 hS => ?_)
                    have e9F : fT (fT (fT vF 104 gm) 105 g171) 106 tb2 = fT (fT (fT (fT vF 104 gm) 105 fo) 106 tb2) 105 g171 := ((fT_sw _ _ _ (Nat.ne_of_beq_eq_false rfl)).trans (congrArg (fun g9 => fT g9 106 tb2) (fT_sm _ _ _ _))).symm
                    have hP := wr_PF e9F (fz_P ht hB9.1)
                    have hD := wr_DF e9F (hB9.2.weaken (fun _ q _ h => hFc q.1 h))
                    clear e9F
                    rcases hw9 with ⟨rfl, f171_0, f171_1, f171_2, f171_3, f171_4⟩ | ⟨rfl, f171_0, f171_1, f171_2, f171_3, f171_4, f171_5⟩
                    · have f171_3 : g171 = fo := f171_3
                      have f171_4 : ∀ t, 0 < t → t + 1 < K5 → tuOf fo (t + 1) < tuOf fo t := f171_4
                      refine lv_istore hx hb dX12_tour_174 hl (by decide) rfl (fun ls (hl : lv_has ls _ ([(5, .int 0), (4, .int be2), (3, .int (nI K5)), (0, .ref h0), (2, .int iI)])) => ?_)
                      refine lv_goto (tgt := 100) hx hb dX12_tour_176 (by decide) ?_
                      have hl : lv_has _ _ ([(5, .int 0), (4, .int be2), (3, .int (nI K5)), (0, .ref h0), (2, .int iI)]) := lv_sub hl [0, 1, 2, 3, 4] rfl
                      exact ih100_1 be2 0 g171 tb2 _ _ _ (f171_0) (f171_1) (f171_2) (by rw [f171_3]; exact hf0) (Or.inl ⟨rfl, tuH.last (by omega) hV f171_4 hH2⟩) (by (have h8 := hfx.resolve_left (fun h => c_102 h.1)); (have h7 := Vo_rng hBo); exact Or.inl ⟨rfl, by omega⟩) hP hD hS hl
                    · have f171_3 : ∃ k0, k0 < 8 ∧ (∀ i, i < k0 → g171 i = fo i) ∧ (fo k0).toInt < (g171 k0).toInt := f171_3
                      have f171_4 : ∃ k, 0 < k ∧ tuZ K5 k (tuOf fo) (tuOf g171) := f171_4
                      have f171_5 : g171 0 = fo 0 := f171_5
                      obtain ⟨k9, hk9, hk8, hk7⟩ := f171_3
                      have hVl := Vo_lt hBo f171_0 hk9 hk8 hk7
                      have hVr2 := Vo_rng f171_0
                      refine lv_istore hx hb dX12_tour_174 hl (by decide) rfl (fun ls (hl : lv_has ls _ ([(5, .int 1), (4, .int be2), (3, .int (nI K5)), (0, .ref h0), (2, .int iI)])) => ?_)
                      refine lv_goto (tgt := 100) hx hb dX12_tour_176 (by decide) ?_
                      have hl : lv_has _ _ ([(5, .int 1), (4, .int be2), (3, .int (nI K5)), (0, .ref h0), (2, .int iI)]) := lv_sub hl [0, 1, 2, 3, 4] rfl
                      exact ih100_1 be2 1 g171 tb2 _ _ _ (f171_0) (f171_1) (f171_2) (by rw [f171_5]; exact hf0) (Or.inr ⟨by decide, by obtain ⟨kz, hz0, hz1, hz2, hz3, hz4, hz5, hz6⟩ := f171_4; exact tuH.next (by omega) hV (tuOf_v f171_0 (by omega) f171_1 f171_2 (by rw [f171_5]; exact hf0)) hz1 hz2 hz3 hz4 hz5 hz6 hH2⟩) (by (have h8 := hfx.resolve_left (fun h => c_102 h.1)); exact Or.inr (by omega)) hP hD hS hl
            · have t_55 : ¬ ((i5 : Nat) : Int) ≥ 12 := toI_nge c_55 (nI_toInt (by omega)) (by decide)
              refine lv_iload_n hx hb dX12_tour_58 rfl (lv_at hl 3 rfl) ?_
              refine lv_iload hx hb dX12_tour_59 (lv_at hl 0 rfl) ?_
              refine lv_ishr hx hb dX12_tour_61 ?_
              refine lv_iconst (v := 1) hx hb dX12_tour_62 (by decide) ?_
              refine lv_iand hx hb dX12_tour_63 ?_
              refine lv_topi (fun y5 hy5 => ?_)
              obtain rfl : (nI (nn / 2 ^ i5 % 2)) = y5 := (hy5.trans (shr_bit (by omega) (by omega))).symm
              refine lv_if_ne (tgt := 70) hx hb dX12_tour_64 (by decide) (fun c_64 => ?_) (fun c_64 => ?_)
              · have t_64 : (((nn / 2 ^ i5 % 2) : Nat) : Int) ≠ 0 := toI_ne c_64 (nI_toInt (by omega)) (by decide)
                have hup := cnt_up (n := nn) (show i5 + 1 ≤ 12 by omega)
                rw [cnt_succ] at hup
                refine lv_aload_n hx hb dX12_tour_70 rfl (lv_at hl 2 rfl) ?_
                refine va_get (D := (dC, dI)) (ci := 12) (v := .ref (a 104)) (C := RX12) (T := TX12) (N := 163) (fs := fM (vS a (fT vi 0 0) vj)) hx hb hts iwsRX12_tour_in12 hown hK hP 0 rfl rfl 160 (by decide) (hts _ hm_r_X12_tour_2) (fun _ h9 => h9) rfl dX12_tour_71 ?_
                refine lv_iload_n hx hb dX12_tour_74 rfl (lv_at hl 1 rfl) ?_
                refine lv_iload hx hb dX12_tour_75 (lv_at hl 0 rfl) ?_
                refine va_iast (cA := k 104) (n := 8) (f := gm) hx hb hK hP hD hS 105 104 (WR_get 104 (by decide)) (TR_get 104 (by decide)) (vp_in_nI (show K5 < 8 by omega) (by omega)) dX12_tour_77 (fun H locs hP hD hS => ?_)
                have e9 : fT (fT vF 104 (upd gm ((nI K5)).toNatClampNeg (nI i5))) 105 go = fT (fT (fT vF 104 gm) 105 go) 104 (upd gm ((nI K5)).toNatClampNeg (nI i5)) := ((fT_sw _ _ _ (Nat.ne_of_beq_eq_false rfl)).trans (congrArg (fun g9 => fT g9 105 go) (fT_sm _ _ _ _))).symm
                have hP := wr_PF e9 (fz_w (WR_F 104 (by decide) _ rfl) hP)
                have hD := wr_DF e9 (fz_wD (WR_F 104 (by decide) _ rfl) hD)
                clear e9
                refine lv_aload_n hx hb dX12_tour_78 rfl (lv_at hl 2 rfl) ?_
                refine va_get (D := (dC, dI)) (ci := 12) (v := .ref (a 105)) (C := RX12) (T := TX12) (N := 163) (fs := fM (vS a (fT vi 0 0) vj)) hx hb hts iwsRX12_tour_in12 hown hK hP 0 rfl rfl 161 (by decide) (hts _ hm_r_X12_tour_3) (fun _ h9 => h9) rfl dX12_tour_79 ?_
                refine lv_iload_n hx hb dX12_tour_82 rfl (lv_at hl 1 rfl) ?_
                refine lv_iload_n hx hb dX12_tour_83 rfl (lv_at hl 1 rfl) ?_
                refine va_iast (cA := k 105) (n := 8) (f := go) hx hb hK hP hD hS 106 105 (WR_get 105 (by decide)) (TR_get 105 (by decide)) (vp_in_nI (show K5 < 8 by omega) (by omega)) dX12_tour_84 (fun H locs hP hD hS => ?_)
                have e9 : fT (fT vF 104 (upd gm ((nI K5)).toNatClampNeg (nI i5))) 105 (upd go ((nI K5)).toNatClampNeg (nI K5)) = fT (fT (fT vF 104 (upd gm ((nI K5)).toNatClampNeg (nI i5))) 105 go) 105 (upd go ((nI K5)).toNatClampNeg (nI K5)) := (fT_sm _ _ _ _).symm
                have hP := wr_PF e9 (fz_w (WR_F 105 (by decide) _ rfl) hP)
                have hD := wr_DF e9 (fz_wD (WR_F 105 (by decide) _ rfl) hD)
                clear e9
                refine lv_iinc (v := (nI (K5 + 1))) hx hb dX12_tour_85 hl (k := 1) rfl (nI_add K5 1) (by decide) rfl (fun ls (hl : lv_has ls _ ([(3, .int (nI (K5 + 1))), (4, .int (nI i5)), (0, .ref h0), (1, .int (nI nn)), (2, .int iI)])) => ?_)
                refine lv_iinc (v := (nI (i5 + 1))) hx hb dX12_tour_88 hl (k := 1) rfl (nI_add i5 1) (by decide) rfl (fun ls (hl : lv_has ls _ ([(4, .int (nI (i5 + 1))), (3, .int (nI (K5 + 1))), (0, .ref h0), (1, .int (nI nn)), (2, .int iI)])) => ?_)
                refine lv_goto (tgt := 51) hx hb dX12_tour_91 (by decide) ?_
                have hl : lv_has _ _ ([(4, .int (nI (i5 + 1))), (3, .int (nI (K5 + 1))), (0, .ref h0), (1, .int (nI nn)), (2, .int iI)]) := lv_sub hl [0, 1, 2, 3, 4] rfl
                exact ih51 (i5 + 1) (K5 + 1) (upd gm ((nI K5)).toNatClampNeg (nI i5)) (upd go ((nI K5)).toNatClampNeg (nI K5)) _ _ _ (by omega) (by first | exact hB0 | exact fun j hj => by rw [upd_at (by omega)]; split; (rw [nI_toInt (by omega)]; omega); exact hB0 j hj) (by rw [cnt_succ]; omega) (by first | exact hgo | exact fun j hj => by rw [upd_at (by omega)]; by_cases e9 : j = K5; (rw [if_pos e9, e9]); (rw [if_neg e9]; exact hgo j (by omega))) (by first | exact hgm | exact tuMem (by omega) (bI_yes (by omega) t_64) (by rw [hKc]; exact cnt_B (by omega)) (by omega) hgm) (by omega) hP hD hS hl
              · have t_64 : (((nn / 2 ^ i5 % 2) : Nat) : Int) = 0 := toI_nne c_64 (nI_toInt (by omega)) (by decide)
                refine lv_goto (tgt := 88) hx hb dX12_tour_67 (by decide) ?_
                refine lv_iinc (v := (nI (i5 + 1))) hx hb dX12_tour_88 hl (k := 0) rfl (nI_add i5 1) (by decide) rfl (fun ls (hl : lv_has ls _ ([(4, .int (nI (i5 + 1))), (3, .int (nI K5)), (0, .ref h0), (1, .int (nI nn)), (2, .int iI)])) => ?_)
                refine lv_goto (tgt := 51) hx hb dX12_tour_91 (by decide) ?_
                have hl : lv_has _ _ ([(4, .int (nI (i5 + 1))), (3, .int (nI K5)), (0, .ref h0), (1, .int (nI nn)), (2, .int iI)]) := lv_sub hl [0, 1, 2, 3, 4] rfl
                exact ih51 (i5 + 1) K5 gm go _ _ _ (by omega) (by first | exact hB0 | exact fun j hj => by rw [upd_at (by omega)]; split; (rw [nI_toInt (by omega)]; omega); exact hB0 j hj) (by rw [cnt_succ]; omega) (by first | exact hgo | exact fun j hj => by rw [upd_at (by omega)]; by_cases e9 : j = K5; (rw [if_pos e9, e9]); (rw [if_neg e9]; exact hgo j (by omega))) (by first | exact hgm | exact tuMem (by omega) (bI_yes (by omega) t_64) (by rw [hKc]; exact cnt_B (by omega)) (by omega) hgm) (by omega) hP hD hS hl
        · have t_26 : ¬ (((cnt nn 12) : Nat) : Int) ≤ 8 := toI_nle c_26 (nI_toInt (by omega)) (by decide)
          refine lv_iconst (v := 1) hx hb dX12_tour_29 (by decide) ?_
          refine lv_goto (tgt := 34) hx hb dX12_tour_30 (by decide) ?_
          refine va_put (D := (dC, dI)) (ci := 12) (v := .int 1) (ty := .int) (C := RX12) (T := TX12) (N := 163) (fs := fM (vS a vi vj)) hx hb hts iwsRX12_tour_in12 tyX12 tyX12_ok nmX12 hown hK hP hD hS 0 rfl rfl 0 (by decide) (hts _ hm_r_X12_tour_0) (fun _ h9 => h9) rfl (by decide +kernel) rfl rfl (Nat.le_of_ble_eq_true rfl) dX12_tour_34 (fun H locs hP hD hS => ?_)
          have hP : va_P (dC, dI) vwCl (WR a k h0 (fT vi 0 1) vj vF vG) H := fz_w (WR_i 0 _ rfl) hP
          have hD : va_D A (WR a k h0 (fT vi 0 1) vj vF vG) := fz_wD (WR_i 0 _ rfl) hD
          refine lv_aload_n hx hb dX12_tour_37 rfl (lv_at hl 0 rfl) ?_
          refine va_get (D := (dC, dI)) (ci := 12) (v := .int 1) (C := RX12) (T := TX12) (N := 163) (fs := fM (vS a (fT vi 0 1) vj)) hx hb hts iwsRX12_tour_in12 hown hK hP 0 rfl rfl 0 (by decide) (hts _ hm_r_X12_tour_0) (fun _ h9 => h9) rfl dX12_tour_38 ?_
          refine lv_if_le (tgt := 46) hx hb dX12_tour_41 (by decide) (fun c9 => absurd c9 (by decide)) (fun _ => ?_)
          refine lv_iconst (v := 0) hx hb dX12_tour_44 (by decide) ?_
          refine W.widen (k := 0) (n := 0) (by decide +kernel) (by decide +kernel) ?_
          have e9 : fT (fT (fT vF 104 (vF 104)) 105 (vF 105)) 106 (vF 106) = vF := (fT_id _ _ ((fT_ne _ _ (Nat.ne_of_beq_eq_false rfl)).trans (fT_ne _ _ (Nat.ne_of_beq_eq_false rfl)))).trans ((fT_id _ _ (fT_ne _ _ (Nat.ne_of_beq_eq_false rfl))).trans (fT_id _ _ (rfl)))
          have hP := wr_PF e9 hP
          have hD := wr_DF e9 hD
          clear e9
          exact W.iret (v := 0) hx hb hr (fun t9_ ht hW => ⟨⟨0, (1, (vF 104), (vF 105), (vF 106)), rfl, by (try dsimp only); exact Or.inl ⟨hB9o, rfl, fun h9 => by (have h8 := cnt_B (n := nn) (i := 12) (Nat.le_refl _)); omega⟩, by rw [ht]; exact hP, hD⟩, hS.F ht⟩) hS.2.2 dX12_tour_45
theorem dX12_follows_0 : decode cX12_follows 0 = .ok (.bipush 12, 2) := dk_16 (by decide +kernel)
theorem dX12_follows_2 : decode cX12_follows 2 = .ok (.istore_n 2, 1) := dk_61 (by decide +kernel)
theorem dX12_follows_3 : decode cX12_follows 3 = .ok (.iconst 0, 1) := dk_3 (by decide +kernel)
theorem dX12_follows_4 : decode cX12_follows 4 = .ok (.istore_n 3, 1) := dk_62 (by decide +kernel)
theorem dX12_follows_5 : decode cX12_follows 5 = .ok (.iload_n 3, 1) := dk_29 (by decide +kernel)
theorem dX12_follows_6 : decode cX12_follows 6 = .ok (.aload_n 0, 1) := dk_42 (by decide +kernel)
theorem dX12_follows_7 : decode cX12_follows 7 = .ok (.getfield 1069, 3) := dk_180 (by decide +kernel)
theorem dX12_follows_10 : decode cX12_follows 10 = .ok (.if_icmp .ge 85, 3) := dk_162 (by decide +kernel)
theorem dX12_follows_13 : decode cX12_follows 13 = .ok (.aload_n 0, 1) := dk_42 (by decide +kernel)
theorem dX12_follows_14 : decode cX12_follows 14 = .ok (.getfield 312, 3) := dk_180 (by decide +kernel)
theorem dX12_follows_17 : decode cX12_follows 17 = .ok (.iload_n 3, 1) := dk_29 (by decide +kernel)
theorem dX12_follows_18 : decode cX12_follows 18 = .ok (.iaload, 1) := dk_46 (by decide +kernel)
theorem dX12_follows_19 : decode cX12_follows 19 = .ok (.iload_n 1, 1) := dk_27 (by decide +kernel)
theorem dX12_follows_20 : decode cX12_follows 20 = .ok (.if_icmp .ne 69, 3) := dk_160 (by decide +kernel)
theorem dX12_follows_23 : decode cX12_follows 23 = .ok (.aload_n 0, 1) := dk_42 (by decide +kernel)
theorem dX12_follows_24 : decode cX12_follows 24 = .ok (.getfield 333, 3) := dk_180 (by decide +kernel)
theorem dX12_follows_27 : decode cX12_follows 27 = .ok (.aload_n 0, 1) := dk_42 (by decide +kernel)
theorem dX12_follows_28 : decode cX12_follows 28 = .ok (.getfield 315, 3) := dk_180 (by decide +kernel)
theorem dX12_follows_31 : decode cX12_follows 31 = .ok (.iload_n 3, 1) := dk_29 (by decide +kernel)
theorem dX12_follows_32 : decode cX12_follows 32 = .ok (.iaload, 1) := dk_46 (by decide +kernel)
theorem dX12_follows_33 : decode cX12_follows 33 = .ok (.iaload, 1) := dk_46 (by decide +kernel)
theorem dX12_follows_34 : decode cX12_follows 34 = .ok (.ldc_w 1072, 3) := dk_19 (by decide +kernel)
theorem dX12_follows_37 : decode cX12_follows 37 = .ok (.if_icmp .eq 52, 3) := dk_159 (by decide +kernel)
theorem dX12_follows_40 : decode cX12_follows 40 = .ok (.aload_n 0, 1) := dk_42 (by decide +kernel)
theorem dX12_follows_41 : decode cX12_follows 41 = .ok (.getfield 333, 3) := dk_180 (by decide +kernel)
theorem dX12_follows_44 : decode cX12_follows 44 = .ok (.aload_n 0, 1) := dk_42 (by decide +kernel)
theorem dX12_follows_45 : decode cX12_follows 45 = .ok (.getfield 315, 3) := dk_180 (by decide +kernel)
theorem dX12_follows_48 : decode cX12_follows 48 = .ok (.iload_n 3, 1) := dk_29 (by decide +kernel)
theorem dX12_follows_49 : decode cX12_follows 49 = .ok (.iaload, 1) := dk_46 (by decide +kernel)
theorem dX12_follows_50 : decode cX12_follows 50 = .ok (.iaload, 1) := dk_46 (by decide +kernel)
theorem dX12_follows_51 : decode cX12_follows 51 = .ok (.bipush 64, 2) := dk_16 (by decide +kernel)
theorem dX12_follows_53 : decode cX12_follows 53 = .ok (.aload_n 0, 1) := dk_42 (by decide +kernel)
theorem dX12_follows_54 : decode cX12_follows 54 = .ok (.getfield 321, 3) := dk_180 (by decide +kernel)
theorem dX12_follows_57 : decode cX12_follows 57 = .ok (.iload_n 3, 1) := dk_29 (by decide +kernel)
theorem dX12_follows_58 : decode cX12_follows 58 = .ok (.iaload, 1) := dk_46 (by decide +kernel)
theorem dX12_follows_59 : decode cX12_follows 59 = .ok (.imul, 1) := dk_104 (by decide +kernel)
theorem dX12_follows_60 : decode cX12_follows 60 = .ok (.iadd, 1) := dk_96 (by decide +kernel)
theorem dX12_follows_61 : decode cX12_follows 61 = .ok (.iconst 1, 1) := dk_4 (by decide +kernel)
theorem dX12_follows_62 : decode cX12_follows 62 = .ok (.iadd, 1) := dk_96 (by decide +kernel)
theorem dX12_follows_63 : decode cX12_follows 63 = .ok (.aload_n 0, 1) := dk_42 (by decide +kernel)
theorem dX12_follows_64 : decode cX12_follows 64 = .ok (.getfield 333, 3) := dk_180 (by decide +kernel)
theorem dX12_follows_67 : decode cX12_follows 67 = .ok (.iload_n 1, 1) := dk_27 (by decide +kernel)
theorem dX12_follows_68 : decode cX12_follows 68 = .ok (.iaload, 1) := dk_46 (by decide +kernel)
theorem dX12_follows_69 : decode cX12_follows 69 = .ok (.if_icmp .ne 20, 3) := dk_160 (by decide +kernel)
theorem dX12_follows_72 : decode cX12_follows 72 = .ok (.aload_n 0, 1) := dk_42 (by decide +kernel)
theorem dX12_follows_73 : decode cX12_follows 73 = .ok (.getfield 315, 3) := dk_180 (by decide +kernel)
theorem dX12_follows_76 : decode cX12_follows 76 = .ok (.iload_n 3, 1) := dk_29 (by decide +kernel)
theorem dX12_follows_77 : decode cX12_follows 77 = .ok (.iaload, 1) := dk_46 (by decide +kernel)
theorem dX12_follows_78 : decode cX12_follows 78 = .ok (.iload_n 2, 1) := dk_28 (by decide +kernel)
theorem dX12_follows_79 : decode cX12_follows 79 = .ok (.if_icmp .ge 10, 3) := dk_162 (by decide +kernel)
theorem dX12_follows_82 : decode cX12_follows 82 = .ok (.aload_n 0, 1) := dk_42 (by decide +kernel)
theorem dX12_follows_83 : decode cX12_follows 83 = .ok (.getfield 315, 3) := dk_180 (by decide +kernel)
theorem dX12_follows_86 : decode cX12_follows 86 = .ok (.iload_n 3, 1) := dk_29 (by decide +kernel)
theorem dX12_follows_87 : decode cX12_follows 87 = .ok (.iaload, 1) := dk_46 (by decide +kernel)
theorem dX12_follows_88 : decode cX12_follows 88 = .ok (.istore_n 2, 1) := dk_61 (by decide +kernel)
theorem dX12_follows_89 : decode cX12_follows 89 = .ok (.iinc 3 1, 3) := dk_132 (by decide +kernel)
theorem dX12_follows_92 : decode cX12_follows 92 = .ok (.goto (-87), 3) := dk_167 (by decide +kernel)
theorem dX12_follows_95 : decode cX12_follows 95 = .ok (.iload_n 2, 1) := dk_28 (by decide +kernel)
theorem dX12_follows_96 : decode cX12_follows 96 = .ok (.ireturn, 1) := dk_172 (by decide +kernel)
def wsRX12_follows : List Cond := .code yX12_follows cX12_follows 4 (some .int) :: ([.fieldLink RX12 1069 "OptimaWorksModel" "arcs" "I", .fieldLink RX12 312 "OptimaWorksModel" "arcFrom" "[I", .fieldLink RX12 333 "OptimaWorksModel" "far" "[I", .fieldLink RX12 315 "OptimaWorksModel" "arcTo" "[I", .constant RX12 1072 536870912, .fieldLink RX12 321 "OptimaWorksModel" "arcCost" "[I"] ++ wsX120)
theorem iwsRX12_follows_in12 : ∀ w ∈ wsX120, w ∈ wsRX12_follows := fun _ h => List.mem_cons_of_mem _ (List.mem_append_right _ h)
theorem gdwsRX12_follows : wsRX12_follows.all goodWord = true := gdC rfl (gdA (by decide +kernel : ([.fieldLink RX12 1069 "OptimaWorksModel" "arcs" "I", .fieldLink RX12 312 "OptimaWorksModel" "arcFrom" "[I", .fieldLink RX12 333 "OptimaWorksModel" "far" "[I", .fieldLink RX12 315 "OptimaWorksModel" "arcTo" "[I", .constant RX12 1072 536870912, .fieldLink RX12 321 "OptimaWorksModel" "arcCost" "[I"] : List Cond).all goodWord = true) gdwsX120)
theorem hm_r_X12_follows_0 : (.fieldLink RX12 333 "OptimaWorksModel" "far" "[I" : Cond) ∈ wsRX12_follows := by decide +kernel
theorem hm_r_X12_follows_1 : (.fieldLink RX12 315 "OptimaWorksModel" "arcTo" "[I" : Cond) ∈ wsRX12_follows := by decide +kernel
set_option maxHeartbeats 4000000 in
set_option maxRecDepth 100000 in
/-- follows(n) -/
theorem r_X12_follows (l : Launch) (dC : Nat → ClassId) (dI : Nat → Nat → Nat) (a : Nat → Nat) (k : Nat → ClassId) (h0 : Nat) (vi : Nat → Int32) (vj : Nat → Int64) (vF : Nat → Nat → Int32) (vG : Nat → Nat → Int64) (ar : Nat) (nN : Nat) (tN : Nat) (har : vi 150 = nI ar) (har40 : ar ≤ 40) (hAr : ArO (vF 95) (vF 96) (vF 97) (vF 98) ar) (hnN : nN < 12) (htN9 : tN < 12) (hnt : nN ≠ tN) (hnl : vF 102 nN ≠ 536870912) (hFa : FaO (vF 95) (vF 96) (vF 98) ar tN (vF 102)) (hFc : FaC (vF 95) (vF 96) (vF 98) ar (vF 102)) (sz : Nat) : Met l yX12_follows wsRX12_follows ({ frames := 0, cells := 0, slots := 0, locals := 0 }) (va_Pc [.ref h0, .int (nI nN)] (fun U => U.heap.size = sz ∧ va_P (dC, dI) vwCl (WR a k h0 vi vj vF vG) U.heap ∧ va_K (dC, dI) vwCl (tX12 k) U ∧ va_D (fun _ => True) (WR a k h0 vi vj vF vG))) (va_Qi (fun (r : Int32) (u : Nat) => r = (nI u) ∧ (u < 12) ∧ (vF 102 u ≠ 536870912) ∧ (pNx (((ar : Nat) : Int), vF 95, vF 96, vF 97, vF 98) (w64 (((ar : Nat) : Int), vF 95, vF 96, vF 97, vF 98)) (fun n => (vF 102 n).toInt) nN u)) (fun (u : Nat) t => va_P (dC, dI) vwCl (WR a k h0 vi vj vF vG) t.heap ∧ va_D (va_A (WR a k h0 vi vj vF vG) sz) (WR a k h0 vi vj vF vG)) (va_A (WR a k h0 vi vj vF vG) sz)) 0 0 (va_A (WR a k h0 vi vj vF vG) sz) := by
  refine Met.ofW (cc := cX12_follows) (maxL := 4) (ret := (some .int)) (by decide) rfl ?_
  intro p e s m args below meth c s₁ B hml hv
  obtain ⟨rfl, hsz, hP, hK, hD0⟩ := hv
  have hx := B.exec
  have hb := B.bytes
  have hr := B.returns
  have hts := atoms_spec (ws := wsRX12_follows) B.pre
  have hown : s.vm.findClass RX12 = some m.cls := findClass_of_methodNamed B.named
  have hlocks := B.notSynchronized
  subst hsz
  have hD := hD0.self (sz := s.heap.size)
  generalize hAe : va_A (WR a k h0 vi vj vF vG) s.heap.size = A at hD ⊢
  have hA : ∀ q : Nat, s.heap.size ≤ q → A q := fun q h => by rw [← hAe]; exact Or.inr h
  have hS : va_S A s.heap s.heap [] := va_S.rf
  have hl := lv_entry ([.ref h0, .int (nI nN)]) (n := 4) (Nat.le_of_ble_eq_true rfl)
  rw [lg_entry_eq]
  generalize (lg_sl ([.ref h0, .int (nI nN)]) ++ List.replicate (4 - (lg_sl ([.ref h0, .int (nI nN)])).length) Slot.unset).toArray = ls at hl ⊢
  have hl : lv_has ls 4 [(0, .ref h0), (1, .int (nI nN))] := hl
  obtain ⟨a0, z0, ha0, hz0, e0f, e0t, h0l, h0g⟩ := (hFa.2 nN hnN).resolve_left hnl |>.2.2.resolve_left hnt
  have h0c := hFc a0 nN z0 ha0 hnN hz0 e0f e0t h0l
  have h0e : (vF 102 z0).toInt + 64 * (vF 98 a0).toInt + 1 = (vF 102 nN).toInt := by omega
  refine lv_bipush (v := 12) hx hb dX12_follows_0 (by decide) ?_
  refine lv_istore_n hx hb dX12_follows_2 rfl hl (by decide) rfl (fun ls (hl : lv_has ls _ ([(2, .int 12), (0, .ref h0), (1, .int (nI nN))])) => ?_)
  refine lv_iconst (v := 0) hx hb dX12_follows_3 (by decide) ?_
  refine lv_istore_n hx hb dX12_follows_4 rfl hl (by decide) rfl (fun ls (hl : lv_has ls _ ([(3, .int 0), (2, .int 12), (0, .ref h0), (1, .int (nI nN))])) => ?_)
  have hl : lv_has _ _ ([(0, .ref h0), (1, .int (nI nN)), (2, .int (nI 12)), (3, .int (nI 0))]) := lv_sub hl [2, 3, 1, 0] rfl
  refine (fun (loop : ∀ (n9 : Nat) (k5 : Nat) (bb : Nat) (H : Heap) (locs : List Loc) (ls : Array Slot), (k5 ≤ ar) → (bb ≤ 12 ∧ (bb < 12 → vF 102 bb ≠ 536870912) ∧ (a0 < k5 → bb < 12)) → (pFo (((ar : Nat) : Int), vF 95, vF 96, vF 97, vF 98) (w64 (((ar : Nat) : Int), vF 95, vF 96, vF 97, vF 98)) (fun n => (vF 102 n).toInt) nN 12 k5 ((bb : Nat) : Int)) →  (ar < k5 + n9) → va_P (dC, dI) vwCl (WR a k h0 vi vj vF vG) H → va_D A (WR a k h0 vi vj vF vG) → va_S A s.heap H locs → lv_has ls 4 [(0, .ref h0), (1, .int (nI nN)), (2, .int (nI bb)), (3, .int (nI k5))] → W p l e _ s m _ below meth c H locs 0 0 _ (F0 m 5 ls [])) => loop (ar + 1) 0 12 _ _ _ (by omega) (⟨by omega, fun h9 => absurd h9 (by omega), fun h9 => absurd h9 (by omega)⟩) (pFo.start) (by omega) hP hD hS hl) ?_
  intro n9
  induction n9 with
  | zero => intro k5 bb H locs ls hk5 hbb hFo hf9; exact False.elim (by omega)
  | succ n9 ih5 =>
    intro k5 bb H locs ls hk5 hbb hFo hf5 hP hD hS hl
    refine lv_iload_n hx hb dX12_follows_5 rfl (lv_at hl 3 rfl) ?_
    refine lv_aload_n hx hb dX12_follows_6 rfl (lv_at hl 0 rfl) ?_
    refine va_get (D := (dC, dI)) (ci := 12) (v := .int (vi 150)) (C := RX12) (T := TX12) (N := 163) (fs := fM (vS a vi vj)) hx hb hts iwsRX12_follows_in12 hown hK hP 0 rfl rfl 150 (by decide) (hts (.fieldLink RX12 1069 "OptimaWorksModel" "arcs" "I") (by decide +kernel)) (fun _ h9 => h9) rfl dX12_follows_7 ?_
    refine lv_topi (fun y1 hy1 => ?_)
    obtain rfl : (nI ar) = y1 := (hy1.trans (har)).symm
    refine lv_icmp_ge (tgt := 95) hx hb dX12_follows_10 (by decide) (fun c_10 => ?_) (fun c_10 => ?_)
    · have t_10 : ((k5 : Nat) : Int) ≥ ((ar : Nat) : Int) := toI_ge c_10 (nI_toInt (by omega)) (nI_toInt (by omega))
      refine lv_iload_n hx hb dX12_follows_95 rfl (lv_at hl 2 rfl) ?_
      refine W.widen (k := 0) (n := 0) (by decide +kernel) (by decide +kernel) ?_
      exact W.iret (v := (nI bb)) hx hb hr (fun t9_ ht hW => ⟨⟨(nI bb), bb, rfl, by (try dsimp only); exact ⟨rfl, hbb.2.2 (by omega), hbb.2.1 (hbb.2.2 (by omega)), (pFo.done hFo (by dsimp only; omega) ((FaO.dis hAr htN9 hFa hFc).some hnN hnt (show (vF 102 nN).toInt < 536870912 from by have h8 := (hFa.bd hnN).2.2 hnl; omega))).1⟩, by rw [ht]; exact hP, hD⟩, hS.F ht⟩) hS.2.2 dX12_follows_96
    · have t_10 : ¬ ((k5 : Nat) : Int) ≥ ((ar : Nat) : Int) := toI_nge c_10 (nI_toInt (by omega)) (nI_toInt (by omega))
      obtain ⟨x5, yB, hx5, hyB, hxy5, ex5, ey5, hr5, hc5⟩ := hAr k5 (by omega)
      have hby := hFa.bd hyB
      refine lv_aload_n hx hb dX12_follows_13 rfl (lv_at hl 0 rfl) ?_
      refine va_get (D := (dC, dI)) (ci := 12) (v := .ref (a 95)) (C := RX12) (T := TX12) (N := 163) (fs := fM (vS a vi vj)) hx hb hts iwsRX12_follows_in12 hown hK hP 0 rfl rfl 151 (by decide) (hts (.fieldLink RX12 312 "OptimaWorksModel" "arcFrom" "[I") (by decide +kernel)) (fun _ h9 => h9) rfl dX12_follows_14 ?_
      refine lv_iload_n hx hb dX12_follows_17 rfl (lv_at hl 3 rfl) ?_
      refine va_iald (cA := k 95) (n := 40) (f := (vF 95)) hx hb hK hP 96 95 (WR_get 95 (by decide)) (TR_get 95 (by decide)) (vp_in_nI (show k5 < 40 by omega) (by omega)) dX12_follows_18 ?_
      refine lv_topi (fun y2 hy2 => ?_)
      obtain rfl : ((vF 95) k5) = y2 := (hy2.trans (by rw [nI_clamp (by omega)])).symm
      refine lv_iload_n hx hb dX12_follows_19 rfl (lv_at hl 1 rfl) ?_
      refine lv_icmp_ne (tgt := 89) hx hb dX12_follows_20 (by decide) (fun c_20 => ?_) (fun c_20 => ?_)
      · have t_20 : (((vF 95) k5)).toInt ≠ ((nN : Nat) : Int) := toI_ne c_20 rfl (nI_toInt (by omega))
        refine lv_iinc (v := (nI (k5 + 1))) hx hb dX12_follows_89 hl (k := 3) rfl (nI_add k5 1) (by decide) rfl (fun ls (hl : lv_has ls _ ([(3, .int (nI (k5 + 1))), (0, .ref h0), (1, .int (nI nN)), (2, .int (nI bb))])) => ?_)
        refine lv_goto (tgt := 5) hx hb dX12_follows_92 (by decide) ?_
        have hl : lv_has _ _ ([(0, .ref h0), (1, .int (nI nN)), (2, .int (nI bb)), (3, .int (nI (k5 + 1)))]) := lv_sub hl [1, 2, 3, 0] rfl
        exact ih5 (k5 + 1) bb _ _ _ (by omega) (by (have hka : a0 ≠ k5 := fun e9 => by subst e9; exact c_20 e0f); exact ⟨hbb.1, hbb.2.1, fun h9 => hbb.2.2 (by omega)⟩) (pFo.no hFo (fun h9 => by have h8 := (pOn_iff (by omega) hx5 hyB ex5 ey5).mp h9; exact c_20 (by rw [ex5, h8.1]))) (by omega) hP hD hS hl
      · have t_20 : (((vF 95) k5)).toInt = ((nN : Nat) : Int) := toI_nne c_20 rfl (nI_toInt (by omega))
        refine lv_aload_n hx hb dX12_follows_23 rfl (lv_at hl 0 rfl) ?_
        refine va_get (D := (dC, dI)) (ci := 12) (v := .ref (a 102)) (C := RX12) (T := TX12) (N := 163) (fs := fM (vS a vi vj)) hx hb hts iwsRX12_follows_in12 hown hK hP 0 rfl rfl 158 (by decide) (hts _ hm_r_X12_follows_0) (fun _ h9 => h9) rfl dX12_follows_24 ?_
        refine lv_aload_n hx hb dX12_follows_27 rfl (lv_at hl 0 rfl) ?_
        refine va_get (D := (dC, dI)) (ci := 12) (v := .ref (a 96)) (C := RX12) (T := TX12) (N := 163) (fs := fM (vS a vi vj)) hx hb hts iwsRX12_follows_in12 hown hK hP 0 rfl rfl 152 (by decide) (hts _ hm_r_X12_follows_1) (fun _ h9 => h9) rfl dX12_follows_28 ?_
        refine lv_iload_n hx hb dX12_follows_31 rfl (lv_at hl 3 rfl) ?_
        refine va_iald (cA := k 96) (n := 40) (f := (vF 96)) hx hb hK hP 97 96 (WR_get 96 (by decide)) (TR_get 96 (by decide)) (vp_in_nI (show k5 < 40 by omega) (by omega)) dX12_follows_32 ?_
        refine lv_topi (fun y3 hy3 => ?_)
        obtain rfl : ((vF 96) k5) = y3 := (hy3.trans (by rw [nI_clamp (by omega)])).symm
        refine lv_topi (fun y4 hy4 => ?_)
        obtain rfl : (nI yB) = y4 := (hy4.trans (ey5)).symm
        refine va_iald (cA := k 102) (n := 12) (f := (vF 102)) hx hb hK hP 103 102 (WR_get 102 (by decide)) (TR_get 102 (by decide)) (vp_in_nI (show yB < 12 by omega) (by omega)) dX12_follows_33 ?_
        refine lv_topi (fun y5 hy5 => ?_)
        obtain rfl : ((vF 102) yB) = y5 := (hy5.trans (by rw [nI_clamp (by omega)])).symm
        refine lv_ldcw (v := 536870912) hx hb hown (hts (.constant RX12 1072 536870912) (by decide +kernel)) dX12_follows_34 ?_
        refine lv_icmp_eq (tgt := 89) hx hb dX12_follows_37 (by decide) (fun c_37 => ?_) (fun c_37 => ?_)
        · have t_37 : (((vF 102) yB)).toInt = 536870912 := toI_eq c_37 rfl (by decide)
          refine lv_iinc (v := (nI (k5 + 1))) hx hb dX12_follows_89 hl (k := 3) rfl (nI_add k5 1) (by decide) rfl (fun ls (hl : lv_has ls _ ([(3, .int (nI (k5 + 1))), (0, .ref h0), (1, .int (nI nN)), (2, .int (nI bb))])) => ?_)
          refine lv_goto (tgt := 5) hx hb dX12_follows_92 (by decide) ?_
          have hl : lv_has _ _ ([(0, .ref h0), (1, .int (nI nN)), (2, .int (nI bb)), (3, .int (nI (k5 + 1)))]) := lv_sub hl [1, 2, 3, 0] rfl
          exact ih5 (k5 + 1) bb _ _ _ (by omega) (by (have hka : a0 ≠ k5 := fun e9 => by subst e9; (have ez : yB = z0 := (nI_eq (by omega) (by omega)).mp (ey5.symm.trans e0t)); subst ez; exact h0l c_37); exact ⟨hbb.1, hbb.2.1, fun h9 => hbb.2.2 (by omega)⟩) (pFo.no hFo (fun h9 => by have h8 := (pOn_iff (by omega) hx5 hyB ex5 ey5).mp h9; exact absurd (show (vF 102 yB).toInt < 536870912 from h8.2.1) (by rw [c_37]; decide))) (by omega) hP hD hS hl
        · have t_37 : ¬ (((vF 102) yB)).toInt = 536870912 := toI_neq c_37 rfl (by decide)
          refine lv_aload_n hx hb dX12_follows_40 rfl (lv_at hl 0 rfl) ?_
          refine va_get (D := (dC, dI)) (ci := 12) (v := .ref (a 102)) (C := RX12) (T := TX12) (N := 163) (fs := fM (vS a vi vj)) hx hb hts iwsRX12_follows_in12 hown hK hP 0 rfl rfl 158 (by decide) (hts _ hm_r_X12_follows_0) (fun _ h9 => h9) rfl dX12_follows_41 ?_
          refine lv_aload_n hx hb dX12_follows_44 rfl (lv_at hl 0 rfl) ?_
          refine va_get (D := (dC, dI)) (ci := 12) (v := .ref (a 96)) (C := RX12) (T := TX12) (N := 163) (fs := fM (vS a vi vj)) hx hb hts iwsRX12_follows_in12 hown hK hP 0 rfl rfl 152 (by decide) (hts _ hm_r_X12_follows_1) (fun _ h9 => h9) rfl dX12_follows_45 ?_
          refine lv_iload_n hx hb dX12_follows_48 rfl (lv_at hl 3 rfl) ?_
          refine va_iald (cA := k 96) (n := 40) (f := (vF 96)) hx hb hK hP 97 96 (WR_get 96 (by decide)) (TR_get 96 (by decide)) (vp_in_nI (show k5 < 40 by omega) (by omega)) dX12_follows_49 ?_
          refine lv_topi (fun y6 hy6 => ?_)
          obtain rfl : ((vF 96) k5) = y6 := (hy6.trans (by rw [nI_clamp (by omega)])).symm
          refine lv_topi (fun y7 hy7 => ?_)
          obtain rfl : (nI yB) = y7 := (hy7.trans (ey5)).symm
          refine va_iald (cA := k 102) (n := 12) (f := (vF 102)) hx hb hK hP 103 102 (WR_get 102 (by decide)) (TR_get 102 (by decide)) (vp_in_nI (show yB < 12 by omega) (by omega)) dX12_follows_50 ?_
          refine lv_topi (fun y8 hy8 => ?_)
          obtain rfl : ((vF 102) yB) = y8 := (hy8.trans (by rw [nI_clamp (by omega)])).symm
          refine lv_bipush (v := 64) hx hb dX12_follows_51 (by decide) ?_
          refine lv_aload_n hx hb dX12_follows_53 rfl (lv_at hl 0 rfl) ?_
          refine va_get (D := (dC, dI)) (ci := 12) (v := .ref (a 98)) (C := RX12) (T := TX12) (N := 163) (fs := fM (vS a vi vj)) hx hb hts iwsRX12_follows_in12 hown hK hP 0 rfl rfl 154 (by decide) (hts (.fieldLink RX12 321 "OptimaWorksModel" "arcCost" "[I") (by decide +kernel)) (fun _ h9 => h9) rfl dX12_follows_54 ?_
          refine lv_iload_n hx hb dX12_follows_57 rfl (lv_at hl 3 rfl) ?_
          refine va_iald (cA := k 98) (n := 40) (f := (vF 98)) hx hb hK hP 99 98 (WR_get 98 (by decide)) (TR_get 98 (by decide)) (vp_in_nI (show k5 < 40 by omega) (by omega)) dX12_follows_58 ?_
          refine lv_topi (fun y9 hy9 => ?_)
          obtain rfl : ((vF 98) k5) = y9 := (hy9.trans (by rw [nI_clamp (by omega)])).symm
          refine lv_imul hx hb dX12_follows_59 ?_
          refine lv_iadd hx hb dX12_follows_60 ?_
          refine lv_iconst (v := 1) hx hb dX12_follows_61 (by decide) ?_
          refine lv_iadd hx hb dX12_follows_62 ?_
          have hm64 : (64 * vF 98 k5).toInt = 64 * (vF 98 k5).toInt := mul64 hc5
          have hcs : (vF 102 yB + 64 * vF 98 k5 + 1).toInt = (vF 102 yB).toInt + 64 * (vF 98 k5).toInt + 1 := by rw [addB (by rw [addB (by omega) (by omega)]; omega) (by decide), addB (by omega) (by omega), hm64]; rfl
          refine lv_aload_n hx hb dX12_follows_63 rfl (lv_at hl 0 rfl) ?_
          refine va_get (D := (dC, dI)) (ci := 12) (v := .ref (a 102)) (C := RX12) (T := TX12) (N := 163) (fs := fM (vS a vi vj)) hx hb hts iwsRX12_follows_in12 hown hK hP 0 rfl rfl 158 (by decide) (hts _ hm_r_X12_follows_0) (fun _ h9 => h9) rfl dX12_follows_64 ?_
          refine lv_iload_n hx hb dX12_follows_67 rfl (lv_at hl 1 rfl) ?_
          refine va_iald (cA := k 102) (n := 12) (f := (vF 102)) hx hb hK hP 103 102 (WR_get 102 (by decide)) (TR_get 102 (by decide)) (vp_in_nI (show nN < 12 by omega) (by omega)) dX12_follows_68 ?_
          refine lv_topi (fun y10 hy10 => ?_)
          obtain rfl : ((vF 102) nN) = y10 := (hy10.trans (by rw [nI_clamp (by omega)])).symm
          refine lv_icmp_ne (tgt := 89) hx hb dX12_follows_69 (by decide) (fun c_69 => ?_) (fun c_69 => ?_)
          · have t_69 : (((((vF 102) yB) + (64 * ((vF 98) k5))) + 1)).toInt ≠ (((vF 102) nN)).toInt := toI_ne c_69 rfl rfl
            refine lv_iinc (v := (nI (k5 + 1))) hx hb dX12_follows_89 hl (k := 3) rfl (nI_add k5 1) (by decide) rfl (fun ls (hl : lv_has ls _ ([(3, .int (nI (k5 + 1))), (0, .ref h0), (1, .int (nI nN)), (2, .int (nI bb))])) => ?_)
            refine lv_goto (tgt := 5) hx hb dX12_follows_92 (by decide) ?_
            have hl : lv_has _ _ ([(0, .ref h0), (1, .int (nI nN)), (2, .int (nI bb)), (3, .int (nI (k5 + 1)))]) := lv_sub hl [1, 2, 3, 0] rfl
            exact ih5 (k5 + 1) bb _ _ _ (by omega) (by (have hka : a0 ≠ k5 := fun e9 => by subst e9; (have ez : yB = z0 := (nI_eq (by omega) (by omega)).mp (ey5.symm.trans e0t)); subst ez; exact c_69 (Int32.toInt_inj.mp (by rw [hcs]; exact h0e))); exact ⟨hbb.1, hbb.2.1, fun h9 => hbb.2.2 (by omega)⟩) (pFo.no hFo (fun h9 => by have h8 := (pOn_iff (by omega) hx5 hyB ex5 ey5).mp h9; have h7 : (vF 102 yB).toInt + (64 * (vF 98 k5).toInt + 1) = (vF 102 nN).toInt := h8.2.2; exact c_69 (Int32.toInt_inj.mp (by rw [hcs]; omega)))) (by omega) hP hD hS hl
          · have t_69 : (((((vF 102) yB) + (64 * ((vF 98) k5))) + 1)).toInt = (((vF 102) nN)).toInt := toI_nne c_69 rfl rfl
            refine lv_aload_n hx hb dX12_follows_72 rfl (lv_at hl 0 rfl) ?_
            refine va_get (D := (dC, dI)) (ci := 12) (v := .ref (a 96)) (C := RX12) (T := TX12) (N := 163) (fs := fM (vS a vi vj)) hx hb hts iwsRX12_follows_in12 hown hK hP 0 rfl rfl 152 (by decide) (hts _ hm_r_X12_follows_1) (fun _ h9 => h9) rfl dX12_follows_73 ?_
            refine lv_iload_n hx hb dX12_follows_76 rfl (lv_at hl 3 rfl) ?_
            refine va_iald (cA := k 96) (n := 40) (f := (vF 96)) hx hb hK hP 97 96 (WR_get 96 (by decide)) (TR_get 96 (by decide)) (vp_in_nI (show k5 < 40 by omega) (by omega)) dX12_follows_77 ?_
            refine lv_topi (fun y11 hy11 => ?_)
            obtain rfl : ((vF 96) k5) = y11 := (hy11.trans (by rw [nI_clamp (by omega)])).symm
            refine lv_topi (fun y12 hy12 => ?_)
            obtain rfl : (nI yB) = y12 := (hy12.trans (ey5)).symm
            refine lv_iload_n hx hb dX12_follows_78 rfl (lv_at hl 2 rfl) ?_
            refine lv_icmp_ge (tgt := 89) hx hb dX12_follows_79 (by decide) (fun c_79 => ?_) (fun c_79 => ?_)
            · have t_79 : ((yB : Nat) : Int) ≥ ((bb : Nat) : Int) := toI_ge c_79 (nI_toInt (by omega)) (nI_toInt (by omega))
              refine lv_iinc (v := (nI (k5 + 1))) hx hb dX12_follows_89 hl (k := 3) rfl (nI_add k5 1) (by decide) rfl (fun ls (hl : lv_has ls _ ([(3, .int (nI (k5 + 1))), (0, .ref h0), (1, .int (nI nN)), (2, .int (nI bb))])) => ?_)
              refine lv_goto (tgt := 5) hx hb dX12_follows_92 (by decide) ?_
              have hl : lv_has _ _ ([(0, .ref h0), (1, .int (nI nN)), (2, .int (nI bb)), (3, .int (nI (k5 + 1)))]) := lv_sub hl [1, 2, 3, 0] rfl
              exact ih5 (k5 + 1) bb _ _ _ (by omega) (⟨hbb.1, hbb.2.1, fun _ => by omega⟩) (pFo.keep hFo (by omega) (by rw [tTo_of hyB ey5]; omega)) (by omega) hP hD hS hl
            · have t_79 : ¬ ((yB : Nat) : Int) ≥ ((bb : Nat) : Int) := toI_nge c_79 (nI_toInt (by omega)) (nI_toInt (by omega))
              refine lv_aload_n hx hb dX12_follows_82 rfl (lv_at hl 0 rfl) ?_
              refine va_get (D := (dC, dI)) (ci := 12) (v := .ref (a 96)) (C := RX12) (T := TX12) (N := 163) (fs := fM (vS a vi vj)) hx hb hts iwsRX12_follows_in12 hown hK hP 0 rfl rfl 152 (by decide) (hts _ hm_r_X12_follows_1) (fun _ h9 => h9) rfl dX12_follows_83 ?_
              refine lv_iload_n hx hb dX12_follows_86 rfl (lv_at hl 3 rfl) ?_
              refine va_iald (cA := k 96) (n := 40) (f := (vF 96)) hx hb hK hP 97 96 (WR_get 96 (by decide)) (TR_get 96 (by decide)) (vp_in_nI (show k5 < 40 by omega) (by omega)) dX12_follows_87 ?_
              refine lv_topi (fun y13 hy13 => ?_)
              obtain rfl : ((vF 96) k5) = y13 := (hy13.trans (by rw [nI_clamp (by omega)])).symm
              refine lv_topi (fun y14 hy14 => ?_)
              obtain rfl : (nI yB) = y14 := (hy14.trans (ey5)).symm
              refine lv_istore_n hx hb dX12_follows_88 rfl hl (by decide) rfl (fun ls (hl : lv_has ls _ ([(2, .int (nI yB)), (0, .ref h0), (1, .int (nI nN)), (3, .int (nI k5))])) => ?_)
              refine lv_iinc (v := (nI (k5 + 1))) hx hb dX12_follows_89 hl (k := 3) rfl (nI_add k5 1) (by decide) rfl (fun ls (hl : lv_has ls _ ([(3, .int (nI (k5 + 1))), (2, .int (nI yB)), (0, .ref h0), (1, .int (nI nN))])) => ?_)
              refine lv_goto (tgt := 5) hx hb dX12_follows_92 (by decide) ?_
              have hl : lv_has _ _ ([(0, .ref h0), (1, .int (nI nN)), (2, .int (nI yB)), (3, .int (nI (k5 + 1)))]) := lv_sub hl [2, 3, 1, 0] rfl
              exact ih5 (k5 + 1) yB _ _ _ (by omega) (⟨by omega, fun _ => c_37, fun _ => by omega⟩) (pFo.take hFo ((pOn_iff (by omega) hx5 hyB ex5 ey5).mpr ⟨(nI_eq (by omega) (by omega)).mp (ex5.symm.trans c_20), (show (vF 102 yB).toInt < 536870912 from by have h8 := hby.2.2 c_37; omega), (show (vF 102 yB).toInt + (64 * (vF 98 k5).toInt + 1) = (vF 102 nN).toInt from by rw [← c_69, hcs]; omega)⟩) (tTo_of hyB ey5).symm (Or.inr (by omega)) (by omega)) (by omega) hP hD hS hl
theorem dX12_path_0 : decode cX12_path 0 = .ok (.aload_n 0, 1) := dk_42 (by decide +kernel)
theorem dX12_path_1 : decode cX12_path 1 = .ok (.iload_n 1, 1) := dk_27 (by decide +kernel)
theorem dX12_path_2 : decode cX12_path 2 = .ok (.iload_n 2, 1) := dk_28 (by decide +kernel)
theorem dX12_path_3 : decode cX12_path 3 = .ok (.invokevirtual 1079, 3) := dk_182 (by decide +kernel)
theorem dX12_path_6 : decode cX12_path 6 = .ok (.ifCond .ne 5, 3) := dk_154 (by decide +kernel)
theorem dX12_path_9 : decode cX12_path 9 = .ok (.iconst 0, 1) := dk_3 (by decide +kernel)
theorem dX12_path_10 : decode cX12_path 10 = .ok (.ireturn, 1) := dk_172 (by decide +kernel)
theorem dX12_path_11 : decode cX12_path 11 = .ok (.iconst 0, 1) := dk_3 (by decide +kernel)
theorem dX12_path_12 : decode cX12_path 12 = .ok (.istore 4, 2) := dk_54 (by decide +kernel)
theorem dX12_path_14 : decode cX12_path 14 = .ok (.iload 4, 2) := dk_21 (by decide +kernel)
theorem dX12_path_16 : decode cX12_path 16 = .ok (.bipush 12, 2) := dk_16 (by decide +kernel)
theorem dX12_path_18 : decode cX12_path 18 = .ok (.if_icmp .ge 29, 3) := dk_162 (by decide +kernel)
theorem dX12_path_21 : decode cX12_path 21 = .ok (.aload_n 0, 1) := dk_42 (by decide +kernel)
theorem dX12_path_22 : decode cX12_path 22 = .ok (.getfield 333, 3) := dk_180 (by decide +kernel)
theorem dX12_path_25 : decode cX12_path 25 = .ok (.iload 4, 2) := dk_21 (by decide +kernel)
theorem dX12_path_27 : decode cX12_path 27 = .ok (.iload 4, 2) := dk_21 (by decide +kernel)
theorem dX12_path_29 : decode cX12_path 29 = .ok (.iload_n 2, 1) := dk_28 (by decide +kernel)
theorem dX12_path_30 : decode cX12_path 30 = .ok (.if_icmp .ne 7, 3) := dk_160 (by decide +kernel)
theorem dX12_path_33 : decode cX12_path 33 = .ok (.iconst 0, 1) := dk_3 (by decide +kernel)
theorem dX12_path_34 : decode cX12_path 34 = .ok (.goto 6, 3) := dk_167 (by decide +kernel)
theorem dX12_path_37 : decode cX12_path 37 = .ok (.ldc_w 1072, 3) := dk_19 (by decide +kernel)
theorem dX12_path_40 : decode cX12_path 40 = .ok (.iastore, 1) := dk_79 (by decide +kernel)
theorem dX12_path_41 : decode cX12_path 41 = .ok (.iinc 4 1, 3) := dk_132 (by decide +kernel)
theorem dX12_path_44 : decode cX12_path 44 = .ok (.goto (-30), 3) := dk_167 (by decide +kernel)
theorem dX12_path_47 : decode cX12_path 47 = .ok (.iconst 1, 1) := dk_4 (by decide +kernel)
theorem dX12_path_48 : decode cX12_path 48 = .ok (.istore 4, 2) := dk_54 (by decide +kernel)
theorem dX12_path_50 : decode cX12_path 50 = .ok (.iload 4, 2) := dk_21 (by decide +kernel)
theorem dX12_path_52 : decode cX12_path 52 = .ok (.ifCond .eq 109, 3) := dk_153 (by decide +kernel)
theorem dX12_path_55 : decode cX12_path 55 = .ok (.iconst 0, 1) := dk_3 (by decide +kernel)
theorem dX12_path_56 : decode cX12_path 56 = .ok (.istore 4, 2) := dk_54 (by decide +kernel)
theorem dX12_path_58 : decode cX12_path 58 = .ok (.iconst 0, 1) := dk_3 (by decide +kernel)
theorem dX12_path_59 : decode cX12_path 59 = .ok (.istore 5, 2) := dk_54 (by decide +kernel)
theorem dX12_path_61 : decode cX12_path 61 = .ok (.iload 5, 2) := dk_21 (by decide +kernel)
theorem dX12_path_63 : decode cX12_path 63 = .ok (.aload_n 0, 1) := dk_42 (by decide +kernel)
theorem dX12_path_64 : decode cX12_path 64 = .ok (.getfield 1069, 3) := dk_180 (by decide +kernel)
theorem dX12_path_67 : decode cX12_path 67 = .ok (.if_icmp .ge 91, 3) := dk_162 (by decide +kernel)
theorem dX12_path_70 : decode cX12_path 70 = .ok (.aload_n 0, 1) := dk_42 (by decide +kernel)
theorem dX12_path_71 : decode cX12_path 71 = .ok (.getfield 333, 3) := dk_180 (by decide +kernel)
theorem dX12_path_74 : decode cX12_path 74 = .ok (.aload_n 0, 1) := dk_42 (by decide +kernel)
theorem dX12_path_75 : decode cX12_path 75 = .ok (.getfield 315, 3) := dk_180 (by decide +kernel)
theorem dX12_path_78 : decode cX12_path 78 = .ok (.iload 5, 2) := dk_21 (by decide +kernel)
theorem dX12_path_80 : decode cX12_path 80 = .ok (.iaload, 1) := dk_46 (by decide +kernel)
theorem dX12_path_81 : decode cX12_path 81 = .ok (.iaload, 1) := dk_46 (by decide +kernel)
theorem dX12_path_82 : decode cX12_path 82 = .ok (.bipush 64, 2) := dk_16 (by decide +kernel)
theorem dX12_path_84 : decode cX12_path 84 = .ok (.aload_n 0, 1) := dk_42 (by decide +kernel)
theorem dX12_path_85 : decode cX12_path 85 = .ok (.getfield 321, 3) := dk_180 (by decide +kernel)
theorem dX12_path_88 : decode cX12_path 88 = .ok (.iload 5, 2) := dk_21 (by decide +kernel)
theorem dX12_path_90 : decode cX12_path 90 = .ok (.iaload, 1) := dk_46 (by decide +kernel)
theorem dX12_path_91 : decode cX12_path 91 = .ok (.imul, 1) := dk_104 (by decide +kernel)
theorem dX12_path_92 : decode cX12_path 92 = .ok (.iadd, 1) := dk_96 (by decide +kernel)
theorem dX12_path_93 : decode cX12_path 93 = .ok (.iconst 1, 1) := dk_4 (by decide +kernel)
theorem dX12_path_94 : decode cX12_path 94 = .ok (.iadd, 1) := dk_96 (by decide +kernel)
theorem dX12_path_95 : decode cX12_path 95 = .ok (.istore 6, 2) := dk_54 (by decide +kernel)
theorem dX12_path_97 : decode cX12_path 97 = .ok (.aload_n 0, 1) := dk_42 (by decide +kernel)
theorem dX12_path_98 : decode cX12_path 98 = .ok (.getfield 333, 3) := dk_180 (by decide +kernel)
theorem dX12_path_101 : decode cX12_path 101 = .ok (.aload_n 0, 1) := dk_42 (by decide +kernel)
theorem dX12_path_102 : decode cX12_path 102 = .ok (.getfield 315, 3) := dk_180 (by decide +kernel)
theorem dX12_path_105 : decode cX12_path 105 = .ok (.iload 5, 2) := dk_21 (by decide +kernel)
theorem dX12_path_107 : decode cX12_path 107 = .ok (.iaload, 1) := dk_46 (by decide +kernel)
theorem dX12_path_108 : decode cX12_path 108 = .ok (.iaload, 1) := dk_46 (by decide +kernel)
theorem dX12_path_109 : decode cX12_path 109 = .ok (.ldc_w 1072, 3) := dk_19 (by decide +kernel)
theorem dX12_path_112 : decode cX12_path 112 = .ok (.if_icmp .eq 40, 3) := dk_159 (by decide +kernel)
theorem dX12_path_115 : decode cX12_path 115 = .ok (.iload 6, 2) := dk_21 (by decide +kernel)
theorem dX12_path_117 : decode cX12_path 117 = .ok (.aload_n 0, 1) := dk_42 (by decide +kernel)
theorem dX12_path_118 : decode cX12_path 118 = .ok (.getfield 333, 3) := dk_180 (by decide +kernel)
theorem dX12_path_121 : decode cX12_path 121 = .ok (.aload_n 0, 1) := dk_42 (by decide +kernel)
theorem dX12_path_122 : decode cX12_path 122 = .ok (.getfield 312, 3) := dk_180 (by decide +kernel)
theorem dX12_path_125 : decode cX12_path 125 = .ok (.iload 5, 2) := dk_21 (by decide +kernel)
theorem dX12_path_127 : decode cX12_path 127 = .ok (.iaload, 1) := dk_46 (by decide +kernel)
theorem dX12_path_128 : decode cX12_path 128 = .ok (.iaload, 1) := dk_46 (by decide +kernel)
theorem dX12_path_129 : decode cX12_path 129 = .ok (.if_icmp .lt 6, 3) := dk_161 (by decide +kernel)
theorem dX12_path_132 : decode cX12_path 132 = .ok (.goto 20, 3) := dk_167 (by decide +kernel)
theorem dX12_path_135 : decode cX12_path 135 = .ok (.aload_n 0, 1) := dk_42 (by decide +kernel)
theorem dX12_path_136 : decode cX12_path 136 = .ok (.getfield 333, 3) := dk_180 (by decide +kernel)
theorem dX12_path_139 : decode cX12_path 139 = .ok (.aload_n 0, 1) := dk_42 (by decide +kernel)
theorem dX12_path_140 : decode cX12_path 140 = .ok (.getfield 312, 3) := dk_180 (by decide +kernel)
theorem dX12_path_143 : decode cX12_path 143 = .ok (.iload 5, 2) := dk_21 (by decide +kernel)
theorem dX12_path_145 : decode cX12_path 145 = .ok (.iaload, 1) := dk_46 (by decide +kernel)
theorem dX12_path_146 : decode cX12_path 146 = .ok (.iload 6, 2) := dk_21 (by decide +kernel)
theorem dX12_path_148 : decode cX12_path 148 = .ok (.iastore, 1) := dk_79 (by decide +kernel)
theorem dX12_path_149 : decode cX12_path 149 = .ok (.iconst 1, 1) := dk_4 (by decide +kernel)
theorem dX12_path_150 : decode cX12_path 150 = .ok (.istore 4, 2) := dk_54 (by decide +kernel)
theorem dX12_path_152 : decode cX12_path 152 = .ok (.iinc 5 1, 3) := dk_132 (by decide +kernel)
theorem dX12_path_155 : decode cX12_path 155 = .ok (.goto (-94), 3) := dk_167 (by decide +kernel)
theorem dX12_path_158 : decode cX12_path 158 = .ok (.goto (-108), 3) := dk_167 (by decide +kernel)
theorem dX12_path_161 : decode cX12_path 161 = .ok (.aload_n 0, 1) := dk_42 (by decide +kernel)
theorem dX12_path_162 : decode cX12_path 162 = .ok (.getfield 333, 3) := dk_180 (by decide +kernel)
theorem dX12_path_165 : decode cX12_path 165 = .ok (.iload_n 1, 1) := dk_27 (by decide +kernel)
theorem dX12_path_166 : decode cX12_path 166 = .ok (.iaload, 1) := dk_46 (by decide +kernel)
theorem dX12_path_167 : decode cX12_path 167 = .ok (.ldc_w 1072, 3) := dk_19 (by decide +kernel)
theorem dX12_path_170 : decode cX12_path 170 = .ok (.if_icmp .ne 15, 3) := dk_160 (by decide +kernel)
theorem dX12_path_173 : decode cX12_path 173 = .ok (.iload_n 3, 1) := dk_29 (by decide +kernel)
theorem dX12_path_174 : decode cX12_path 174 = .ok (.bipush (-3), 2) := dk_16 (by decide +kernel)
theorem dX12_path_176 : decode cX12_path 176 = .ok (.if_icmp .ne 7, 3) := dk_160 (by decide +kernel)
theorem dX12_path_179 : decode cX12_path 179 = .ok (.iconst 0, 1) := dk_3 (by decide +kernel)
theorem dX12_path_180 : decode cX12_path 180 = .ok (.goto 4, 3) := dk_167 (by decide +kernel)
theorem dX12_path_183 : decode cX12_path 183 = .ok (.iconst (-1), 1) := dk_2 (by decide +kernel)
theorem dX12_path_184 : decode cX12_path 184 = .ok (.ireturn, 1) := dk_172 (by decide +kernel)
theorem dX12_path_185 : decode cX12_path 185 = .ok (.iload_n 3, 1) := dk_29 (by decide +kernel)
theorem dX12_path_186 : decode cX12_path 186 = .ok (.bipush (-2), 2) := dk_16 (by decide +kernel)
theorem dX12_path_188 : decode cX12_path 188 = .ok (.if_icmp .ne 13, 3) := dk_160 (by decide +kernel)
theorem dX12_path_191 : decode cX12_path 191 = .ok (.aload_n 0, 1) := dk_42 (by decide +kernel)
theorem dX12_path_192 : decode cX12_path 192 = .ok (.getfield 333, 3) := dk_180 (by decide +kernel)
theorem dX12_path_195 : decode cX12_path 195 = .ok (.iload_n 1, 1) := dk_27 (by decide +kernel)
theorem dX12_path_196 : decode cX12_path 196 = .ok (.iaload, 1) := dk_46 (by decide +kernel)
theorem dX12_path_197 : decode cX12_path 197 = .ok (.bipush 64, 2) := dk_16 (by decide +kernel)
theorem dX12_path_199 : decode cX12_path 199 = .ok (.idiv, 1) := dk_108 (by decide +kernel)
theorem dX12_path_200 : decode cX12_path 200 = .ok (.ireturn, 1) := dk_172 (by decide +kernel)
theorem dX12_path_201 : decode cX12_path 201 = .ok (.iload_n 3, 1) := dk_29 (by decide +kernel)
theorem dX12_path_202 : decode cX12_path 202 = .ok (.bipush (-3), 2) := dk_16 (by decide +kernel)
theorem dX12_path_204 : decode cX12_path 204 = .ok (.if_icmp .ne 15, 3) := dk_160 (by decide +kernel)
theorem dX12_path_207 : decode cX12_path 207 = .ok (.aload_n 0, 1) := dk_42 (by decide +kernel)
theorem dX12_path_208 : decode cX12_path 208 = .ok (.getfield 333, 3) := dk_180 (by decide +kernel)
theorem dX12_path_211 : decode cX12_path 211 = .ok (.iload_n 1, 1) := dk_27 (by decide +kernel)
theorem dX12_path_212 : decode cX12_path 212 = .ok (.iaload, 1) := dk_46 (by decide +kernel)
theorem dX12_path_213 : decode cX12_path 213 = .ok (.bipush 64, 2) := dk_16 (by decide +kernel)
theorem dX12_path_215 : decode cX12_path 215 = .ok (.irem, 1) := dk_112 (by decide +kernel)
theorem dX12_path_216 : decode cX12_path 216 = .ok (.iconst 1, 1) := dk_4 (by decide +kernel)
theorem dX12_path_217 : decode cX12_path 217 = .ok (.iadd, 1) := dk_96 (by decide +kernel)
theorem dX12_path_218 : decode cX12_path 218 = .ok (.ireturn, 1) := dk_172 (by decide +kernel)
theorem dX12_path_219 : decode cX12_path 219 = .ok (.iload_n 3, 1) := dk_29 (by decide +kernel)
theorem dX12_path_220 : decode cX12_path 220 = .ok (.ifCond .ge 5, 3) := dk_156 (by decide +kernel)
theorem dX12_path_223 : decode cX12_path 223 = .ok (.iconst (-1), 1) := dk_2 (by decide +kernel)
theorem dX12_path_224 : decode cX12_path 224 = .ok (.ireturn, 1) := dk_172 (by decide +kernel)
theorem dX12_path_225 : decode cX12_path 225 = .ok (.iload_n 1, 1) := dk_27 (by decide +kernel)
theorem dX12_path_226 : decode cX12_path 226 = .ok (.istore 5, 2) := dk_54 (by decide +kernel)
theorem dX12_path_228 : decode cX12_path 228 = .ok (.iconst 0, 1) := dk_3 (by decide +kernel)
theorem dX12_path_229 : decode cX12_path 229 = .ok (.istore 6, 2) := dk_54 (by decide +kernel)
theorem dX12_path_231 : decode cX12_path 231 = .ok (.iload 6, 2) := dk_21 (by decide +kernel)
theorem dX12_path_233 : decode cX12_path 233 = .ok (.iload_n 3, 1) := dk_29 (by decide +kernel)
theorem dX12_path_234 : decode cX12_path 234 = .ok (.if_icmp .ge 25, 3) := dk_162 (by decide +kernel)
theorem dX12_path_237 : decode cX12_path 237 = .ok (.iload 5, 2) := dk_21 (by decide +kernel)
theorem dX12_path_239 : decode cX12_path 239 = .ok (.iload_n 2, 1) := dk_28 (by decide +kernel)
theorem dX12_path_240 : decode cX12_path 240 = .ok (.if_icmp .ne 5, 3) := dk_160 (by decide +kernel)
theorem dX12_path_243 : decode cX12_path 243 = .ok (.iconst (-1), 1) := dk_2 (by decide +kernel)
theorem dX12_path_244 : decode cX12_path 244 = .ok (.ireturn, 1) := dk_172 (by decide +kernel)
theorem dX12_path_245 : decode cX12_path 245 = .ok (.aload_n 0, 1) := dk_42 (by decide +kernel)
theorem dX12_path_246 : decode cX12_path 246 = .ok (.iload 5, 2) := dk_21 (by decide +kernel)
theorem dX12_path_248 : decode cX12_path 248 = .ok (.invokevirtual 1086, 3) := dk_182 (by decide +kernel)
theorem dX12_path_251 : decode cX12_path 251 = .ok (.istore 5, 2) := dk_54 (by decide +kernel)
theorem dX12_path_253 : decode cX12_path 253 = .ok (.iinc 6 1, 3) := dk_132 (by decide +kernel)
theorem dX12_path_256 : decode cX12_path 256 = .ok (.goto (-25), 3) := dk_167 (by decide +kernel)
theorem dX12_path_259 : decode cX12_path 259 = .ok (.iload 5, 2) := dk_21 (by decide +kernel)
theorem dX12_path_261 : decode cX12_path 261 = .ok (.ireturn, 1) := dk_172 (by decide +kernel)
def wsRX12_path : List Cond := .code yX12_path cX12_path 7 (some .int) :: ([.fieldLink RX12 333 "OptimaWorksModel" "far" "[I", .constant RX12 1072 536870912, .fieldLink RX12 1069 "OptimaWorksModel" "arcs" "I", .fieldLink RX12 315 "OptimaWorksModel" "arcTo" "[I", .fieldLink RX12 321 "OptimaWorksModel" "arcCost" "[I", .fieldLink RX12 312 "OptimaWorksModel" "arcFrom" "[I"] ++ wsX120 ++ (wsV RX12 1079 RX12 yX12_areEnds wsRX12_areEnds) ++ (wsV RX12 1086 RX12 yX12_follows wsRX12_follows))
theorem iwsRX12_path_in12 : ∀ w ∈ wsX120, w ∈ wsRX12_path := fun _ h => List.mem_cons_of_mem _ (List.mem_append_left _ (List.mem_append_left _ (List.mem_append_right _ h)))
theorem gwsRX12_path_0 : GoodIn wsRX12_path (wsV RX12 1079 RX12 yX12_areEnds wsRX12_areEnds) := goodIn_sub (fun _ h => List.mem_cons_of_mem _ (List.mem_append_left _ (List.mem_append_right _ h))) (gdV (by decide +kernel) gdwsRX12_areEnds)
theorem gwsRX12_path_1 : GoodIn wsRX12_path (wsV RX12 1086 RX12 yX12_follows wsRX12_follows) := goodIn_sub (fun _ h => List.mem_cons_of_mem _ (List.mem_append_right _ h)) (gdV (by decide +kernel) gdwsRX12_follows)
theorem gdwsRX12_path : wsRX12_path.all goodWord = true := gdC rfl (gdA (gdA (gdA (by decide +kernel : ([.fieldLink RX12 333 "OptimaWorksModel" "far" "[I", .constant RX12 1072 536870912, .fieldLink RX12 1069 "OptimaWorksModel" "arcs" "I", .fieldLink RX12 315 "OptimaWorksModel" "arcTo" "[I", .fieldLink RX12 321 "OptimaWorksModel" "arcCost" "[I", .fieldLink RX12 312 "OptimaWorksModel" "arcFrom" "[I"] : List Cond).all goodWord = true) gdwsX120) (gdV (by decide +kernel) gdwsRX12_areEnds)) (gdV (by decide +kernel) gdwsRX12_follows))
theorem hm_r_X12_path_0 : (.fieldLink RX12 333 "OptimaWorksModel" "far" "[I" : Cond) ∈ wsRX12_path := by decide +kernel
theorem hm_r_X12_path_1 : (.constant RX12 1072 536870912 : Cond) ∈ wsRX12_path := by decide +kernel
theorem hm_r_X12_path_2 : (.fieldLink RX12 315 "OptimaWorksModel" "arcTo" "[I" : Cond) ∈ wsRX12_path := by decide +kernel
theorem hm_r_X12_path_3 : (.fieldLink RX12 312 "OptimaWorksModel" "arcFrom" "[I" : Cond) ∈ wsRX12_path := by decide +kernel
set_option maxHeartbeats 4000000 in
set_option maxRecDepth 100000 in
/-- path(s, t, i) -/
theorem r_X12_path (l : Launch) (dC : Nat → ClassId) (dI : Nat → Nat → Nat) (a : Nat → Nat) (k : Nat → ClassId) (h0 : Nat) (vi : Nat → Int32) (vj : Nat → Int64) (vF : Nat → Nat → Int32) (vG : Nat → Nat → Int64) (sI : Int32) (tI : Int32) (iI : Int32) (ar : Nat) (har : vi 150 = nI ar) (har40 : ar ≤ 40) (hAr : ArO (vF 95) (vF 96) (vF 97) (vF 98) ar) (sz : Nat) : Met l yX12_path wsRX12_path ({ frames := 2, cells := 0, slots := 0, locals := 42 }) (va_Pc [.ref h0, .int sI, .int tI, .int iI] (fun U => U.heap.size = sz ∧ va_P (dC, dI) vwCl (WR a k h0 vi vj vF vG) U.heap ∧ va_K (dC, dI) vwCl (tX12 k) U ∧ va_D (fun _ => True) (WR a k h0 vi vj vF vG))) (va_Qi (fun (r : Int32) (u : (Int32) × (Nat → Int32)) => ((((u.1) = 1 ∧ ¬ ((0 ≤ (sI).toInt ∧ (sI).toInt ≤ 11) ∧ 0 ≤ (tI).toInt ∧ (tI).toInt ≤ 11)) ∨ ((u.1) = 2 ∧ ((0 ≤ (sI).toInt ∧ (sI).toInt ≤ 11) ∧ 0 ≤ (tI).toInt ∧ (tI).toInt ≤ 11) ∧ (sI).toInt = (tI).toInt))) ∨ (((u.1) = 0) ∧ (((0 ≤ (sI).toInt ∧ (sI).toInt ≤ 11) ∧ 0 ≤ (tI).toInt ∧ (tI).toInt ≤ 11) ∧ (sI).toInt ≠ (tI).toInt) ∧ (pAns (((ar : Nat) : Int), vF 95, vF 96, vF 97, vF 98) (sI).toInt.toNat (tI).toInt.toNat (iI).toInt r.toInt))) (fun (u : (Int32) × (Nat → Int32)) t => va_P (dC, dI) vwCl (WR a k h0 (fT vi 0 (u.1)) vj (fT vF 102 (u.2)) vG) t.heap ∧ va_D (va_A (WR a k h0 vi vj vF vG) sz) (WR a k h0 (fT vi 0 (u.1)) vj (fT vF 102 (u.2)) vG)) (va_A (WR a k h0 vi vj vF vG) sz)) 0 0 (va_A (WR a k h0 vi vj vF vG) sz) := by
  refine Met.ofW (cc := cX12_path) (maxL := 7) (ret := (some .int)) (by decide) rfl ?_
  intro p e s m args below meth c s₁ B hml hv
  obtain ⟨rfl, hsz, hP, hK, hD0⟩ := hv
  have hx := B.exec
  have hb := B.bytes
  have hr := B.returns
  have hts := atoms_spec (ws := wsRX12_path) B.pre
  have hown : s.vm.findClass RX12 = some m.cls := findClass_of_methodNamed B.named
  have hlocks := B.notSynchronized
  subst hsz
  have hD := hD0.self (sz := s.heap.size)
  generalize hAe : va_A (WR a k h0 vi vj vF vG) s.heap.size = A at hD ⊢
  have hA : ∀ q : Nat, s.heap.size ≤ q → A q := fun q h => by rw [← hAe]; exact Or.inr h
  have hS : va_S A s.heap s.heap [] := va_S.rf
  have hl := lv_entry ([.ref h0, .int sI, .int tI, .int iI]) (n := 7) (Nat.le_of_ble_eq_true rfl)
  rw [lg_entry_eq]
  generalize (lg_sl ([.ref h0, .int sI, .int tI, .int iI]) ++ List.replicate (7 - (lg_sl ([.ref h0, .int sI, .int tI, .int iI])).length) Slot.unset).toArray = ls at hl ⊢
  have hl : lv_has ls 7 [(0, .ref h0), (1, .int sI), (2, .int tI), (3, .int iI)] := hl
  have hiB := Int32.toInt_lt iI
  refine lv_aload_n hx hb dX12_path_0 rfl (lv_at hl 0 rfl) ?_
  refine lv_iload_n hx hb dX12_path_1 rfl (lv_at hl 1 rfl) ?_
  refine lv_iload_n hx hb dX12_path_2 rfl (lv_at hl 2 rfl) ?_
  have hFc := allFree hD hS hA
  refine va_calli (va_runV (As := [.int sI, .int tI]) (rest := []) ⟨hx, hb, hml, hown, hts⟩ (r_X12_areEnds l dC dI a k h0 vi vj vF vG sI tI s.heap.size) (cwV 2 hts gwsRX12_path_0 rfl rfl rfl hd_yX12_areEnds_RX12 (by decide +kernel)) (fz_pre (va_recv hK hP (ci := 12) (q0 := 0) rfl rfl) hP hK hD) rfl rfl hl.1 rfl (lv_room (Nat.le_of_ble_eq_true rfl)) dX12_path_3 (by decide +kernel)) hS (fun q _ h => hFc q h) hFc (fun r3 th3 t9_ H locs ht hvm hw9 hB9 hz1 hk1 hS => ?_)
  have hP : va_P (dC, dI) vwCl (WR a k h0 (fT vi 0 th3) vj vF vG) H := fz_P ht hB9.1
  have hD := fz_sd hP (hB9.2.weaken (fun _ q _ h => hFc q.1 h)) rfl
  rcases hw9 with ⟨rfl, f3_0, f3_1, f3_2, f3_3⟩ | ⟨rfl, f3_0⟩
  · refine lv_if_ne (tgt := 11) hx hb dX12_path_6 (by decide) (fun _ => ?_) (fun c9 => absurd c9 (by decide))
    obtain ⟨sN, hsN, esN⟩ := of_toInt (x := sI) (k := 12) (by omega) (by omega)
    subst esN
    obtain ⟨tN, htN, etN⟩ := of_toInt (x := tI) (k := 12) (by omega) (by omega)
    subst etN
    refine lv_iconst (v := 0) hx hb dX12_path_11 (by decide) ?_
    refine lv_istore hx hb dX12_path_12 hl (by decide) rfl (fun ls (hl : lv_has ls _ ([(4, .int 0), (0, .ref h0), (1, .int (nI sN)), (2, .int (nI tN)), (3, .int iI)])) => ?_)
    have e9 : fT vF 102 (vF 102) = vF := by funext q9; by_cases h9_102 : q9 = 102; (subst h9_102; exact (fT_eq _ _ _).trans (Eq.trans (by first | with_reducible rfl | with_reducible assumption | (symm; with_reducible assumption) | rfl | assumption | (symm; assumption) | (subst_vars; rfl)) (Eq.refl _).symm)); exact (fT_ne _ _ h9_102).trans (Eq.refl _).symm
    have hP := wr_PF e9 hP
    have hD := wr_DF e9 hD
    clear e9
    have hl : lv_has _ _ ([(0, .ref h0), (1, .int (nI sN)), (2, .int (nI tN)), (3, .int iI), (4, .int (nI 0))]) := lv_sub hl [1, 2, 3, 4, 0] rfl
    refine (fun (loop : ∀ (n9 : Nat) (n1 : Nat) (f1 : Nat → Int32) (H : Heap) (locs : List Loc) (ls : Array Slot), (n1 ≤ 12) → (∀ n, n < n1 → f1 n = if n = tN then 0 else 536870912) →  (12 < n1 + n9) → va_P (dC, dI) vwCl (WR a k h0 (fT vi 0 th3) vj (fT vF 102 f1) vG) H → va_D A (WR a k h0 (fT vi 0 th3) vj (fT vF 102 f1) vG) → va_S A s.heap H locs → lv_has ls 7 [(0, .ref h0), (1, .int (nI sN)), (2, .int (nI tN)), (3, .int iI), (4, .int (nI n1))] → W p l e _ s m _ below meth c H locs 0 0 _ (F0 m 14 ls [])) => loop (13) 0 (vF 102) _ _ _ (by omega) (fun n hn => absurd hn (by omega)) (by omega) hP hD hS hl) ?_
    intro n9
    induction n9 with
    | zero => intro n1 f1 H locs ls hn1 hz hf9; exact False.elim (by omega)
    | succ n9 ih14 =>
      intro n1 f1 H locs ls hn1 hz hf14 hP hD hS hl
      refine lv_iload hx hb dX12_path_14 (lv_at hl 4 rfl) ?_
      refine lv_bipush (v := 12) hx hb dX12_path_16 (by decide) ?_
      refine lv_icmp_ge (tgt := 47) hx hb dX12_path_18 (by decide) (fun c_18 => ?_) (fun c_18 => ?_)
      · have t_18 : ((n1 : Nat) : Int) ≥ 12 := toI_ge c_18 (nI_toInt (by omega)) (by decide)
        have hFa0 : FaO (vF 95) (vF 96) (vF 98) ar tN f1 := FaO.init htN (fun n hn => hz n (by omega))
        refine lv_iconst (v := 1) hx hb dX12_path_47 (by decide) ?_
        refine lv_istore hx hb dX12_path_48 hl (by decide) rfl (fun ls (hl : lv_has ls _ ([(4, .int 1), (0, .ref h0), (1, .int (nI sN)), (2, .int (nI tN)), (3, .int iI)])) => ?_)
        have hl : lv_has _ _ ([(0, .ref h0), (1, .int (nI sN)), (2, .int (nI tN)), (3, .int iI), (4, .int 1)]) := lv_sub hl [1, 2, 3, 4, 0] rfl
        refine (fun (loop : ∀ (n9 : Nat) (lz : Int32) (fa1 : Nat → Int32) (H : Heap) (locs : List Loc) (ls : Array Slot), (FaO (vF 95) (vF 96) (vF 98) ar tN fa1) → (lz = 0 → FaC (vF 95) (vF 96) (vF 98) ar fa1) →  ((lz = 0 ∧ 0 < n9) ∨ sPr fa1 + 1 < n9) → va_P (dC, dI) vwCl (WR a k h0 (fT vi 0 th3) vj (fT vF 102 fa1) vG) H → va_D A (WR a k h0 (fT vi 0 th3) vj (fT vF 102 fa1) vG) → va_S A s.heap H locs → lv_has ls 7 [(0, .ref h0), (1, .int (nI sN)), (2, .int (nI tN)), (3, .int iI), (4, .int lz)] → W p l e _ s m _ below meth c H locs 0 0 _ (F0 m 50 ls [])) => loop (sPr f1 + 2) 1 f1 _ _ _ (hFa0) (fun h9 => absurd h9 (by decide)) (Or.inr (by omega)) hP hD hS hl) ?_
        intro n9
        induction n9 with
        | zero => intro lz fa1 H locs ls hFa1 hCl1 hf9; exact False.elim (by omega)
        | succ n9 ih50_1 =>
          intro lz fa1 H locs ls hFa1 hCl1 hf50_1 hP hD hS hl
          have hfx := hf50_1
          refine lv_iload hx hb dX12_path_50 (lv_at hl 4 rfl) ?_
          refine lv_if_eq (tgt := 161) hx hb dX12_path_52 (by decide) (fun c_52 => ?_) (fun c_52 => ?_)
          · have t_52 : (lz).toInt = 0 := toI_eq c_52 rfl (by decide)
            have hFcc := hCl1 c_52
            have hDis := FaO.dis hAr htN hFa1 hFcc
            have hnr : ∀ n, n < 12 → fa1 n ≠ 536870912 → (fa1 n).toInt < 536870912 := fun n hn h9 => by have h8 := (hFa1.bd hn).2.2 h9; omega
            have hs0 := hFa1.bd hsN
            have es9 : (nI sN).toInt.toNat = sN := by rw [nI_toInt (by omega)]; omega
            have et9 : (nI tN).toInt.toNat = tN := by rw [nI_toInt (by omega)]; omega
            refine lv_aload_n hx hb dX12_path_161 rfl (lv_at hl 0 rfl) ?_
            refine va_get (D := (dC, dI)) (ci := 12) (v := .ref (a 102)) (C := RX12) (T := TX12) (N := 163) (fs := fM (vS a (fT vi 0 th3) vj)) hx hb hts iwsRX12_path_in12 hown hK hP 0 rfl rfl 158 (by decide) (hts _ hm_r_X12_path_0) (fun _ h9 => h9) rfl dX12_path_162 ?_
            refine lv_iload_n hx hb dX12_path_165 rfl (lv_at hl 1 rfl) ?_
            refine va_iald (cA := k 102) (n := 12) (f := fa1) hx hb hK hP 103 102 (WR_get 102 (by decide)) (TR_get 102 (by decide)) (vp_in_nI (show sN < 12 by omega) (by omega)) dX12_path_166 ?_
            refine lv_topi (fun y1 hy1 => ?_)
            obtain rfl : (fa1 sN) = y1 := (hy1.trans (by rw [nI_clamp (by omega)])).symm
            refine lv_ldcw (v := 536870912) hx hb hown (hts _ hm_r_X12_path_1) dX12_path_167 ?_
            refine lv_icmp_ne (tgt := 185) hx hb dX12_path_170 (by decide) (fun c_170 => ?_) (fun c_170 => ?_)
            · have t_170 : ((fa1 sN)).toInt ≠ 536870912 := toI_ne c_170 rfl (by decide)
              refine lv_iload_n hx hb dX12_path_185 rfl (lv_at hl 3 rfl) ?_
              refine lv_bipush (v := (-2)) hx hb dX12_path_186 (by decide) ?_
              refine lv_icmp_ne (tgt := 201) hx hb dX12_path_188 (by decide) (fun c_188 => ?_) (fun c_188 => ?_)
              · have t_188 : (iI).toInt ≠ -2 := toI_ne c_188 rfl (by decide)
                refine lv_iload_n hx hb dX12_path_201 rfl (lv_at hl 3 rfl) ?_
                refine lv_bipush (v := (-3)) hx hb dX12_path_202 (by decide) ?_
                refine lv_icmp_ne (tgt := 219) hx hb dX12_path_204 (by decide) (fun c_204 => ?_) (fun c_204 => ?_)
                · have t_204 : (iI).toInt ≠ -3 := toI_ne c_204 rfl (by decide)
                  refine lv_iload_n hx hb dX12_path_219 rfl (lv_at hl 3 rfl) ?_
                  refine lv_if_ge (tgt := 225) hx hb dX12_path_220 (by decide) (fun c_220 => ?_) (fun c_220 => ?_)
                  · have t_220 : (iI).toInt ≥ 0 := toI_ge c_220 rfl (by decide)
                    refine lv_iload_n hx hb dX12_path_225 rfl (lv_at hl 1 rfl) ?_
                    refine lv_istore hx hb dX12_path_226 hl (by decide) rfl (fun ls (hl : lv_has ls _ ([(5, .int (nI sN)), (0, .ref h0), (1, .int (nI sN)), (2, .int (nI tN)), (3, .int iI), (4, .int lz)])) => ?_)
                    refine lv_iconst (v := 0) hx hb dX12_path_228 (by decide) ?_
                    refine lv_istore hx hb dX12_path_229 hl (by decide) rfl (fun ls (hl : lv_has ls _ ([(6, .int 0), (5, .int (nI sN)), (0, .ref h0), (1, .int (nI sN)), (2, .int (nI tN)), (3, .int iI), (4, .int lz)])) => ?_)
                    have hl : lv_has _ _ ([(0, .ref h0), (2, .int (nI tN)), (3, .int iI), (5, .int (nI sN)), (6, .int (nI 0))]) := lv_sub hl [2, 4, 5, 1, 0] rfl
                    refine (fun (loop : ∀ (n9 : Nat) (k6 : Nat) (x6 : Nat) (H : Heap) (locs : List Loc) (ls : Array Slot), ((k6 : Int) ≤ (iI).toInt) → (x6 < 12) → (fa1 x6 ≠ 536870912) → (pWay (((ar : Nat) : Int), vF 95, vF 96, vF 97, vF 98) (w64 (((ar : Nat) : Int), vF 95, vF 96, vF 97, vF 98)) tN (fun n => (fa1 n).toInt) sN k6 x6) → ((fa1 x6).toInt % 64 = (fa1 sN).toInt % 64 - (k6 : Int)) →  ((iI).toInt < k6 + (n9 : Int)) → va_P (dC, dI) vwCl (WR a k h0 (fT vi 0 th3) vj (fT vF 102 fa1) vG) H → va_D A (WR a k h0 (fT vi 0 th3) vj (fT vF 102 fa1) vG) → va_S A s.heap H locs → lv_has ls 7 [(0, .ref h0), (2, .int (nI tN)), (3, .int iI), (5, .int (nI x6)), (6, .int (nI k6))] → W p l e _ s m _ below meth c H locs 0 0 _ (F0 m 231 ls [])) => loop ((iI).toInt.toNat + 1) 0 sN _ _ _ (by omega) (by omega) (c_170) (rfl) (by omega) (by omega) hP hD hS hl) ?_
                    intro n9
                    induction n9 with
                    | zero => intro k6 x6 H locs ls hk6 hx6 hxl hWy hK6 hf9; exact False.elim (by omega)
                    | succ n9 ih231_2 =>
                      intro k6 x6 H locs ls hk6 hx6 hxl hWy hK6 hf231_2 hP hD hS hl
                      refine lv_iload hx hb dX12_path_231 (lv_at hl 4 rfl) ?_
                      refine lv_iload_n hx hb dX12_path_233 rfl (lv_at hl 2 rfl) ?_
                      refine lv_icmp_ge (tgt := 259) hx hb dX12_path_234 (by decide) (fun c_234 => ?_) (fun c_234 => ?_)
                      · have t_234 : ((k6 : Nat) : Int) ≥ (iI).toInt := toI_ge c_234 (nI_toInt (by omega)) rfl
                        refine lv_iload hx hb dX12_path_259 (lv_at hl 3 rfl) ?_
                        refine W.widen (k := 0) (n := 0) (by decide +kernel) (by decide +kernel) ?_
                        exact W.iret (v := (nI x6)) hx hb hr (fun t9_ ht hW => ⟨⟨(nI x6), (th3, fa1), rfl, by (try dsimp only); exact Or.inr ⟨f3_3, ⟨by omega, fun e9 => f3_2 (Int32.toInt_inj.mp e9)⟩, by rw [es9, et9]; exact pA.near (ArO.val hAr) hDis hsN (show (fa1 sN).toInt < 536870912 from hnr sN hsN c_170) (Or.inr (Or.inr (Or.inr (Or.inr ⟨t_220, (show (iI).toInt ≤ (fa1 sN).toInt % 64 from by omega), by rw [nI_toInt (by omega)]; omega, by rw [show (iI).toInt.toNat = k6 from by omega, show (nI x6).toInt.toNat = x6 from by rw [nI_toInt (by omega)]; omega]; exact hWy⟩))))⟩, by rw [ht]; exact hP, hD⟩, hS.F ht⟩) hS.2.2 dX12_path_261
                      · have t_234 : ¬ ((k6 : Nat) : Int) ≥ (iI).toInt := toI_nge c_234 (nI_toInt (by omega)) rfl
                        refine lv_iload hx hb dX12_path_237 (lv_at hl 3 rfl) ?_
                        refine lv_iload_n hx hb dX12_path_239 rfl (lv_at hl 1 rfl) ?_
                        refine lv_icmp_ne (tgt := 245) hx hb dX12_path_240 (by decide) (fun c_240 => ?_) (fun c_240 => ?_)
                        · have t_240 : ((x6 : Nat) : Int) ≠ ((tN : Nat) : Int) := toI_ne c_240 (nI_toInt (by omega)) (nI_toInt (by omega))
                          refine lv_aload_n hx hb dX12_path_245 rfl (lv_at hl 0 rfl) ?_
                          refine lv_iload hx hb dX12_path_246 (lv_at hl 3 rfl) ?_
                          have hFc := allFree hD hS hA
                          refine va_calli (va_runV (As := [.int (nI x6)]) (rest := []) ⟨hx, hb, hml, hown, hts⟩ (r_X12_follows l dC dI a k h0 (fT vi 0 th3) vj (fT vF 102 fa1) vG ar x6 tN har (by first | with_reducible assumption | decide | omega | rfl | assumption) (by first | with_reducible assumption | decide | omega | rfl | assumption) (by first | with_reducible assumption | decide | omega | rfl | assumption) (htN) (fun e9 => c_240 (by rw [e9])) (hxl) (hFa1) (hFcc) H.size) (cwV 1 hts gwsRX12_path_1 rfl rfl rfl hd_yX12_follows_RX12 (by decide +kernel)) (fz_pre (va_recv hK hP (ci := 12) (q0 := 0) rfl rfl) hP hK hD) rfl rfl hl.1 rfl (lv_room (Nat.le_of_ble_eq_true rfl)) dX12_path_248 (by decide +kernel)) hS (fun q _ h => hFc q h) hFc (fun r248 x2248 t9_ H locs ht hvm hw9 hB9 hz1 hk1 hS => ?_)
                          have hP : va_P (dC, dI) vwCl (WR a k h0 (fT vi 0 th3) vj (fT vF 102 fa1) vG) H := fz_P ht hB9.1
                          have hD := fz_sd hP (hB9.2.weaken (fun _ q _ h => hFc q.1 h)) rfl
                          obtain ⟨rfl, f248_0, f248_1, f248_2⟩ := hw9
                          have f248_1 : fa1 x2248 ≠ 536870912 := f248_1
                          have f248_2 : pNx (((ar : Nat) : Int), (vF 95), (vF 96), (vF 97), (vF 98)) (w64 (((ar : Nat) : Int), (vF 95), (vF 96), (vF 97), (vF 98))) (fun n => (fa1 n).toInt) x6 x2248 := f248_2
                          refine lv_istore hx hb dX12_path_251 hl (by decide) rfl (fun ls (hl : lv_has ls _ ([(5, .int (nI x2248)), (0, .ref h0), (2, .int (nI tN)), (3, .int iI), (6, .int (nI k6))])) => ?_)
                          refine lv_iinc (v := (nI (k6 + 1))) hx hb dX12_path_253 hl (k := 4) rfl (nI_add k6 1) (by decide) rfl (fun ls (hl : lv_has ls _ ([(6, .int (nI (k6 + 1))), (5, .int (nI x2248)), (0, .ref h0), (2, .int (nI tN)), (3, .int iI)])) => ?_)
                          refine lv_goto (tgt := 231) hx hb dX12_path_256 (by decide) ?_
                          have hl : lv_has _ _ ([(0, .ref h0), (2, .int (nI tN)), (3, .int iI), (5, .int (nI x2248)), (6, .int (nI (k6 + 1)))]) := lv_sub hl [2, 3, 4, 1, 0] rfl
                          exact ih231_2 (k6 + 1) x2248 _ _ _ (by omega) (f248_0) (f248_1) (⟨x6, hWy, fun e9 => c_240 (by rw [e9]), f248_2⟩) (by have h8 := (pNx.s64 (ArO.val hAr) hDis hx6 (hnr x6 hx6 hxl) f248_2).2.2; have h7 : (fa1 x2248).toInt % 64 = (fa1 x6).toInt % 64 - 1 := h8; omega) (by omega) hP hD hS hl
                        · have t_240 : ((x6 : Nat) : Int) = ((tN : Nat) : Int) := toI_nne c_240 (nI_toInt (by omega)) (nI_toInt (by omega))
                          refine lv_iconst (v := (-1)) hx hb dX12_path_243 (by decide) ?_
                          refine W.widen (k := 0) (n := 0) (by decide +kernel) (by decide +kernel) ?_
                          exact W.iret (v := (-1)) hx hb hr (fun t9_ ht hW => ⟨⟨(-1), (th3, fa1), rfl, by (try dsimp only); exact Or.inr ⟨f3_3, ⟨by omega, fun e9 => f3_2 (Int32.toInt_inj.mp e9)⟩, by rw [es9, et9]; exact pA.near (ArO.val hAr) hDis hsN (show (fa1 sN).toInt < 536870912 from hnr sN hsN c_170) (Or.inr (Or.inr (Or.inr (Or.inl ⟨t_220, (show (fa1 sN).toInt % 64 < (iI).toInt from by have h8 : (fa1 x6).toInt = 0 := (by rw [show x6 = tN from by omega, hFa1.1]; decide); rw [h8] at hK6; omega), by decide⟩))))⟩, by rw [ht]; exact hP, hD⟩, hS.F ht⟩) hS.2.2 dX12_path_244
                  · have t_220 : ¬ (iI).toInt ≥ 0 := toI_nge c_220 rfl (by decide)
                    refine lv_iconst (v := (-1)) hx hb dX12_path_223 (by decide) ?_
                    refine W.widen (k := 0) (n := 0) (by decide +kernel) (by decide +kernel) ?_
                    exact W.iret (v := (-1)) hx hb hr (fun t9_ ht hW => ⟨⟨(-1), (th3, fa1), rfl, by (try dsimp only); exact Or.inr ⟨f3_3, ⟨by omega, fun e9 => f3_2 (Int32.toInt_inj.mp e9)⟩, by rw [es9, et9]; exact pA.near (ArO.val hAr) hDis hsN (show (fa1 sN).toInt < 536870912 from hnr sN hsN c_170) (Or.inr (Or.inr (Or.inl ⟨by omega, t_188, t_204, by decide⟩)))⟩, by rw [ht]; exact hP, hD⟩, hS.F ht⟩) hS.2.2 dX12_path_224
                · have t_204 : (iI).toInt = -3 := toI_nne c_204 rfl (by decide)
                  refine lv_aload_n hx hb dX12_path_207 rfl (lv_at hl 0 rfl) ?_
                  refine va_get (D := (dC, dI)) (ci := 12) (v := .ref (a 102)) (C := RX12) (T := TX12) (N := 163) (fs := fM (vS a (fT vi 0 th3) vj)) hx hb hts iwsRX12_path_in12 hown hK hP 0 rfl rfl 158 (by decide) (hts _ hm_r_X12_path_0) (fun _ h9 => h9) rfl dX12_path_208 ?_
                  refine lv_iload_n hx hb dX12_path_211 rfl (lv_at hl 1 rfl) ?_
                  refine va_iald (cA := k 102) (n := 12) (f := fa1) hx hb hK hP 103 102 (WR_get 102 (by decide)) (TR_get 102 (by decide)) (vp_in_nI (show sN < 12 by omega) (by omega)) dX12_path_212 ?_
                  refine lv_topi (fun y2 hy2 => ?_)
                  obtain rfl : (fa1 sN) = y2 := (hy2.trans (by rw [nI_clamp (by omega)])).symm
                  refine lv_bipush (v := 64) hx hb dX12_path_213 (by decide) ?_
                  refine lv_irem hx hb dX12_path_215 (by decide) ?_
                  refine lv_iconst (v := 1) hx hb dX12_path_216 (by decide) ?_
                  refine lv_iadd hx hb dX12_path_217 ?_
                  refine W.widen (k := 0) (n := 0) (by decide +kernel) (by decide +kernel) ?_
                  exact W.iret (v := (((fa1 sN) - (fa1 sN) / 64 * 64) + 1)) hx hb hr (fun t9_ ht hW => ⟨⟨(((fa1 sN) - (fa1 sN) / 64 * 64) + 1), (th3, fa1), rfl, by (try dsimp only); exact Or.inr ⟨f3_3, ⟨by omega, fun e9 => f3_2 (Int32.toInt_inj.mp e9)⟩, by rw [es9, et9]; exact pA.near (ArO.val hAr) hDis hsN (show (fa1 sN).toInt < 536870912 from hnr sN hsN c_170) (Or.inr (Or.inl ⟨t_204, rm64 hs0.1⟩))⟩, by rw [ht]; exact hP, hD⟩, hS.F ht⟩) hS.2.2 dX12_path_218
              · have t_188 : (iI).toInt = -2 := toI_nne c_188 rfl (by decide)
                refine lv_aload_n hx hb dX12_path_191 rfl (lv_at hl 0 rfl) ?_
                refine va_get (D := (dC, dI)) (ci := 12) (v := .ref (a 102)) (C := RX12) (T := TX12) (N := 163) (fs := fM (vS a (fT vi 0 th3) vj)) hx hb hts iwsRX12_path_in12 hown hK hP 0 rfl rfl 158 (by decide) (hts _ hm_r_X12_path_0) (fun _ h9 => h9) rfl dX12_path_192 ?_
                refine lv_iload_n hx hb dX12_path_195 rfl (lv_at hl 1 rfl) ?_
                refine va_iald (cA := k 102) (n := 12) (f := fa1) hx hb hK hP 103 102 (WR_get 102 (by decide)) (TR_get 102 (by decide)) (vp_in_nI (show sN < 12 by omega) (by omega)) dX12_path_196 ?_
                refine lv_topi (fun y3 hy3 => ?_)
                obtain rfl : (fa1 sN) = y3 := (hy3.trans (by rw [nI_clamp (by omega)])).symm
                refine lv_bipush (v := 64) hx hb dX12_path_197 (by decide) ?_
                refine lv_idiv hx hb dX12_path_199 (by decide) ?_
                refine W.widen (k := 0) (n := 0) (by decide +kernel) (by decide +kernel) ?_
                exact W.iret (v := ((fa1 sN) / 64)) hx hb hr (fun t9_ ht hW => ⟨⟨((fa1 sN) / 64), (th3, fa1), rfl, by (try dsimp only); exact Or.inr ⟨f3_3, ⟨by omega, fun e9 => f3_2 (Int32.toInt_inj.mp e9)⟩, by rw [es9, et9]; exact pA.near (ArO.val hAr) hDis hsN (show (fa1 sN).toInt < 536870912 from hnr sN hsN c_170) (Or.inl ⟨t_188, dv64 hs0.1⟩)⟩, by rw [ht]; exact hP, hD⟩, hS.F ht⟩) hS.2.2 dX12_path_200
            · have t_170 : ((fa1 sN)).toInt = 536870912 := toI_nne c_170 rfl (by decide)
              refine lv_iload_n hx hb dX12_path_173 rfl (lv_at hl 3 rfl) ?_
              refine lv_bipush (v := (-3)) hx hb dX12_path_174 (by decide) ?_
              refine lv_icmp_ne (tgt := 183) hx hb dX12_path_176 (by decide) (fun c_176 => ?_) (fun c_176 => ?_)
              · have t_176 : (iI).toInt ≠ -3 := toI_ne c_176 rfl (by decide)
                refine lv_iconst (v := (-1)) hx hb dX12_path_183 (by decide) ?_
                refine W.widen (k := 0) (n := 0) (by decide +kernel) (by decide +kernel) ?_
                exact W.iret (v := (-1)) hx hb hr (fun t9_ ht hW => ⟨⟨(-1), (th3, fa1), rfl, by (try dsimp only); exact Or.inr ⟨f3_3, ⟨by omega, fun e9 => f3_2 (Int32.toInt_inj.mp e9)⟩, by rw [es9, et9]; exact pA.far (ArO.val hAr) hDis (show ¬ (fa1 sN).toInt < 536870912 from by omega) (Or.inr ⟨t_176, by decide⟩)⟩, by rw [ht]; exact hP, hD⟩, hS.F ht⟩) hS.2.2 dX12_path_184
              · have t_176 : (iI).toInt = -3 := toI_nne c_176 rfl (by decide)
                refine lv_iconst (v := 0) hx hb dX12_path_179 (by decide) ?_
                refine lv_goto (tgt := 184) hx hb dX12_path_180 (by decide) ?_
                refine W.widen (k := 0) (n := 0) (by decide +kernel) (by decide +kernel) ?_
                exact W.iret (v := 0) hx hb hr (fun t9_ ht hW => ⟨⟨0, (th3, fa1), rfl, by (try dsimp only); exact Or.inr ⟨f3_3, ⟨by omega, fun e9 => f3_2 (Int32.toInt_inj.mp e9)⟩, by rw [es9, et9]; exact pA.far (ArO.val hAr) hDis (show ¬ (fa1 sN).toInt < 536870912 from by omega) (Or.inl ⟨t_176, by decide⟩)⟩, by rw [ht]; exact hP, hD⟩, hS.F ht⟩) hS.2.2 dX12_path_184
          · have t_52 : ¬ (lz).toInt = 0 := toI_neq c_52 rfl (by decide)
            refine lv_iconst (v := 0) hx hb dX12_path_55 (by decide) ?_
            refine lv_istore hx hb dX12_path_56 hl (by decide) rfl (fun ls (hl : lv_has ls _ ([(4, .int 0), (0, .ref h0), (1, .int (nI sN)), (2, .int (nI tN)), (3, .int iI)])) => ?_)
            refine lv_iconst (v := 0) hx hb dX12_path_58 (by decide) ?_
            refine lv_istore hx hb dX12_path_59 hl (by decide) rfl (fun ls (hl : lv_has ls _ ([(5, .int 0), (4, .int 0), (0, .ref h0), (1, .int (nI sN)), (2, .int (nI tN)), (3, .int iI)])) => ?_)
            have hl : lv_has _ _ ([(0, .ref h0), (1, .int (nI sN)), (2, .int (nI tN)), (3, .int iI), (4, .int 0), (5, .int (nI 0))]) := lv_sub hl [2, 3, 4, 5, 1, 0] rfl
            refine (fun (loop : ∀ (n9 : Nat) (a5 : Nat) (l2 : Int32) (fa2 : Nat → Int32) (H : Heap) (locs : List Loc) (ls : Array Slot), (a5 ≤ ar) → (FaO (vF 95) (vF 96) (vF 98) ar tN fa2) → ((l2 = 0 ∧ sPr fa2 ≤ sPr fa1) ∨ sPr fa2 < sPr fa1) → (l2 = 0 → FaC (vF 95) (vF 96) (vF 98) a5 fa2) →  (ar < a5 + n9) → va_P (dC, dI) vwCl (WR a k h0 (fT vi 0 th3) vj (fT vF 102 fa2) vG) H → va_D A (WR a k h0 (fT vi 0 th3) vj (fT vF 102 fa2) vG) → va_S A s.heap H locs → lv_has ls 7 [(0, .ref h0), (1, .int (nI sN)), (2, .int (nI tN)), (3, .int iI), (4, .int l2), (5, .int (nI a5))] → W p l e _ s m _ below meth c H locs 0 0 _ (F0 m 61 ls [])) => loop (ar + 1) 0 0 fa1 _ _ _ (by omega) (hFa1) (Or.inl ⟨rfl, Nat.le_refl _⟩) (fun _ a9 x9 y9 h1 => absurd h1 (by omega)) (by omega) hP hD hS hl) ?_
            intro n9
            induction n9 with
            | zero => intro a5 l2 fa2 H locs ls ha5 hFa2 hM2 hCl hf9; exact False.elim (by omega)
            | succ n9 ih61_3 =>
              intro a5 l2 fa2 H locs ls ha5 hFa2 hM2 hCl hf61_3 hP hD hS hl
              refine lv_iload hx hb dX12_path_61 (lv_at hl 5 rfl) ?_
              refine lv_aload_n hx hb dX12_path_63 rfl (lv_at hl 0 rfl) ?_
              refine va_get (D := (dC, dI)) (ci := 12) (v := .int (vi 150)) (C := RX12) (T := TX12) (N := 163) (fs := fM (vS a (fT vi 0 th3) vj)) hx hb hts iwsRX12_path_in12 hown hK hP 0 rfl rfl 150 (by decide) (hts (.fieldLink RX12 1069 "OptimaWorksModel" "arcs" "I") (by decide +kernel)) (fun _ h9 => h9) rfl dX12_path_64 ?_
              refine lv_topi (fun y4 hy4 => ?_)
              obtain rfl : (nI ar) = y4 := (hy4.trans (har)).symm
              refine lv_icmp_ge (tgt := 158) hx hb dX12_path_67 (by decide) (fun c_67 => ?_) (fun c_67 => ?_)
              · have t_67 : ((a5 : Nat) : Int) ≥ ((ar : Nat) : Int) := toI_ge c_67 (nI_toInt (by omega)) (nI_toInt (by omega))
                refine lv_goto (tgt := 50) hx hb dX12_path_158 (by decide) ?_
                have hl : lv_has _ _ ([(0, .ref h0), (1, .int (nI sN)), (2, .int (nI tN)), (3, .int iI), (4, .int l2)]) := lv_sub hl [0, 1, 2, 3, 4] rfl
                exact ih50_1 l2 fa2 _ _ _ (hFa2) (fun h9 => by (have h8 := hCl h9); rw [show a5 = ar by omega] at h8; exact h8) (by (have h8 := hfx.resolve_left (fun h => c_52 h.1)); rcases hM2 with ⟨h1, h2⟩ | h1; (exact Or.inl ⟨h1, by omega⟩); (exact Or.inr (by omega))) hP hD hS hl
              · have t_67 : ¬ ((a5 : Nat) : Int) ≥ ((ar : Nat) : Int) := toI_nge c_67 (nI_toInt (by omega)) (nI_toInt (by omega))
                obtain ⟨x5, yB, hx5, hyB, hxy5, ex5, ey5, hr5, hc5⟩ := hAr a5 (by omega)
                have hby := hFa2.bd hyB
                have hbx := hFa2.bd hx5
                have hm64 : (64 * vF 98 a5).toInt = 64 * (vF 98 a5).toInt := mul64 hc5
                have hcs : (fa2 yB + 64 * vF 98 a5 + 1).toInt = (fa2 yB).toInt + 64 * (vF 98 a5).toInt + 1 := by rw [addB (by rw [addB (by omega) (by omega)]; omega) (by decide), addB (by omega) (by omega), hm64]; rfl
                refine lv_aload_n hx hb dX12_path_70 rfl (lv_at hl 0 rfl) ?_
                refine va_get (D := (dC, dI)) (ci := 12) (v := .ref (a 102)) (C := RX12) (T := TX12) (N := 163) (fs := fM (vS a (fT vi 0 th3) vj)) hx hb hts iwsRX12_path_in12 hown hK hP 0 rfl rfl 158 (by decide) (hts _ hm_r_X12_path_0) (fun _ h9 => h9) rfl dX12_path_71 ?_
                refine lv_aload_n hx hb dX12_path_74 rfl (lv_at hl 0 rfl) ?_
                refine va_get (D := (dC, dI)) (ci := 12) (v := .ref (a 96)) (C := RX12) (T := TX12) (N := 163) (fs := fM (vS a (fT vi 0 th3) vj)) hx hb hts iwsRX12_path_in12 hown hK hP 0 rfl rfl 152 (by decide) (hts _ hm_r_X12_path_2) (fun _ h9 => h9) rfl dX12_path_75 ?_
                refine lv_iload hx hb dX12_path_78 (lv_at hl 5 rfl) ?_
                refine va_iald (cA := k 96) (n := 40) (f := (vF 96)) hx hb hK hP 97 96 (WR_get 96 (by decide)) (TR_get 96 (by decide)) (vp_in_nI (show a5 < 40 by omega) (by omega)) dX12_path_80 ?_
                refine lv_topi (fun y5 hy5 => ?_)
                obtain rfl : ((vF 96) a5) = y5 := (hy5.trans (by rw [nI_clamp (by omega)])).symm
                refine lv_topi (fun y6 hy6 => ?_)
                obtain rfl : (nI yB) = y6 := (hy6.trans (ey5)).symm
                refine va_iald (cA := k 102) (n := 12) (f := fa2) hx hb hK hP 103 102 (WR_get 102 (by decide)) (TR_get 102 (by decide)) (vp_in_nI (show yB < 12 by omega) (by omega)) dX12_path_81 ?_
                refine lv_topi (fun y7 hy7 => ?_)
                obtain rfl : (fa2 yB) = y7 := (hy7.trans (by rw [nI_clamp (by omega)])).symm
                refine lv_bipush (v := 64) hx hb dX12_path_82 (by decide) ?_
                refine lv_aload_n hx hb dX12_path_84 rfl (lv_at hl 0 rfl) ?_
                refine va_get (D := (dC, dI)) (ci := 12) (v := .ref (a 98)) (C := RX12) (T := TX12) (N := 163) (fs := fM (vS a (fT vi 0 th3) vj)) hx hb hts iwsRX12_path_in12 hown hK hP 0 rfl rfl 154 (by decide) (hts (.fieldLink RX12 321 "OptimaWorksModel" "arcCost" "[I") (by decide +kernel)) (fun _ h9 => h9) rfl dX12_path_85 ?_
                refine lv_iload hx hb dX12_path_88 (lv_at hl 5 rfl) ?_
                refine va_iald (cA := k 98) (n := 40) (f := (vF 98)) hx hb hK hP 99 98 (WR_get 98 (by decide)) (TR_get 98 (by decide)) (vp_in_nI (show a5 < 40 by omega) (by omega)) dX12_path_90 ?_
                refine lv_topi (fun y8 hy8 => ?_)
                obtain rfl : ((vF 98) a5) = y8 := (hy8.trans (by rw [nI_clamp (by omega)])).symm
                refine lv_imul hx hb dX12_path_91 ?_
                refine lv_iadd hx hb dX12_path_92 ?_
                refine lv_iconst (v := 1) hx hb dX12_path_93 (by decide) ?_
                refine lv_iadd hx hb dX12_path_94 ?_
                refine lv_istore hx hb dX12_path_95 hl (by decide) rfl (fun ls (hl : lv_has ls _ ([(6, .int (((fa2 yB) + (64 * ((vF 98) a5))) + 1)), (0, .ref h0), (1, .int (nI sN)), (2, .int (nI tN)), (3, .int iI), (4, .int l2), (5, .int (nI a5))])) => ?_)
                refine lv_aload_n hx hb dX12_path_97 rfl (lv_at hl 1 rfl) ?_
                refine va_get (D := (dC, dI)) (ci := 12) (v := .ref (a 102)) (C := RX12) (T := TX12) (N := 163) (fs := fM (vS a (fT vi 0 th3) vj)) hx hb hts iwsRX12_path_in12 hown hK hP 0 rfl rfl 158 (by decide) (hts _ hm_r_X12_path_0) (fun _ h9 => h9) rfl dX12_path_98 ?_
                refine lv_aload_n hx hb dX12_path_101 rfl (lv_at hl 1 rfl) ?_
                refine va_get (D := (dC, dI)) (ci := 12) (v := .ref (a 96)) (C := RX12) (T := TX12) (N := 163) (fs := fM (vS a (fT vi 0 th3) vj)) hx hb hts iwsRX12_path_in12 hown hK hP 0 rfl rfl 152 (by decide) (hts _ hm_r_X12_path_2) (fun _ h9 => h9) rfl dX12_path_102 ?_
                refine lv_iload hx hb dX12_path_105 (lv_at hl 6 rfl) ?_
                refine va_iald (cA := k 96) (n := 40) (f := (vF 96)) hx hb hK hP 97 96 (WR_get 96 (by decide)) (TR_get 96 (by decide)) (vp_in_nI (show a5 < 40 by omega) (by omega)) dX12_path_107 ?_
                refine lv_topi (fun y9 hy9 => ?_)
                obtain rfl : ((vF 96) a5) = y9 := (hy9.trans (by rw [nI_clamp (by omega)])).symm
                refine lv_topi (fun y10 hy10 => ?_)
                obtain rfl : (nI yB) = y10 := (hy10.trans (ey5)).symm
                refine va_iald (cA := k 102) (n := 12) (f := fa2) hx hb hK hP 103 102 (WR_get 102 (by decide)) (TR_get 102 (by decide)) (vp_in_nI (show yB < 12 by omega) (by omega)) dX12_path_108 ?_
                refine lv_topi (fun y11 hy11 => ?_)
                obtain rfl : (fa2 yB) = y11 := (hy11.trans (by rw [nI_clamp (by omega)])).symm
                refine lv_ldcw (v := 536870912) hx hb hown (hts _ hm_r_X12_path_1) dX12_path_109 ?_
                refine lv_icmp_eq (tgt := 152) hx hb dX12_path_112 (by decide) (fun c_112 => ?_) (fun c_112 => ?_)
                · have t_112 : ((fa2 yB)).toInt = 536870912 := toI_eq c_112 rfl (by decide)
                  refine lv_iinc (v := (nI (a5 + 1))) hx hb dX12_path_152 hl (k := 6) rfl (nI_add a5 1) (by decide) rfl (fun ls (hl : lv_has ls _ ([(5, .int (nI (a5 + 1))), (6, .int (((fa2 yB) + (64 * ((vF 98) a5))) + 1)), (0, .ref h0), (1, .int (nI sN)), (2, .int (nI tN)), (3, .int iI), (4, .int l2)])) => ?_)
                  refine lv_goto (tgt := 61) hx hb dX12_path_155 (by decide) ?_
                  have hl : lv_has _ _ ([(0, .ref h0), (1, .int (nI sN)), (2, .int (nI tN)), (3, .int iI), (4, .int l2), (5, .int (nI (a5 + 1)))]) := lv_sub hl [2, 3, 4, 5, 6, 0] rfl
                  exact ih61_3 (a5 + 1) l2 fa2 _ _ _ (by omega) (hFa2) (hM2) (fun h9 a9 x9 y9 h1 h2 h3 h4 h5 h6 => by by_cases e9 : a9 = a5; (subst e9; (have ezx : x9 = x5 := (nI_eq (by omega) (by omega)).mp (h4.symm.trans ex5)); (have ezy : y9 = yB := (nI_eq (by omega) (by omega)).mp (h5.symm.trans ey5)); exact absurd (show fa2 y9 = 536870912 by rw [ezy]; exact c_112) h6); (exact hCl h9 a9 x9 y9 (by omega) h2 h3 h4 h5 h6)) (by omega) hP hD hS hl
                · have t_112 : ¬ ((fa2 yB)).toInt = 536870912 := toI_neq c_112 rfl (by decide)
                  refine lv_iload hx hb dX12_path_115 (lv_at hl 0 rfl) ?_
                  refine lv_aload_n hx hb dX12_path_117 rfl (lv_at hl 1 rfl) ?_
                  refine va_get (D := (dC, dI)) (ci := 12) (v := .ref (a 102)) (C := RX12) (T := TX12) (N := 163) (fs := fM (vS a (fT vi 0 th3) vj)) hx hb hts iwsRX12_path_in12 hown hK hP 0 rfl rfl 158 (by decide) (hts _ hm_r_X12_path_0) (fun _ h9 => h9) rfl dX12_path_118 ?_
                  refine lv_aload_n hx hb dX12_path_121 rfl (lv_at hl 1 rfl) ?_
                  refine va_get (D := (dC, dI)) (ci := 12) (v := .ref (a 95)) (C := RX12) (T := TX12) (N := 163) (fs := fM (vS a (fT vi 0 th3) vj)) hx hb hts iwsRX12_path_in12 hown hK hP 0 rfl rfl 151 (by decide) (hts _ hm_r_X12_path_3) (fun _ h9 => h9) rfl dX12_path_122 ?_
                  refine lv_iload hx hb dX12_path_125 (lv_at hl 6 rfl) ?_
                  refine va_iald (cA := k 95) (n := 40) (f := (vF 95)) hx hb hK hP 96 95 (WR_get 95 (by decide)) (TR_get 95 (by decide)) (vp_in_nI (show a5 < 40 by omega) (by omega)) dX12_path_127 ?_
                  refine lv_topi (fun y12 hy12 => ?_)
                  obtain rfl : ((vF 95) a5) = y12 := (hy12.trans (by rw [nI_clamp (by omega)])).symm
                  refine lv_topi (fun y13 hy13 => ?_)
                  obtain rfl : (nI x5) = y13 := (hy13.trans (ex5)).symm
                  refine va_iald (cA := k 102) (n := 12) (f := fa2) hx hb hK hP 103 102 (WR_get 102 (by decide)) (TR_get 102 (by decide)) (vp_in_nI (show x5 < 12 by omega) (by omega)) dX12_path_128 ?_
                  refine lv_topi (fun y14 hy14 => ?_)
                  obtain rfl : (fa2 x5) = y14 := (hy14.trans (by rw [nI_clamp (by omega)])).symm
                  refine lv_icmp_lt (tgt := 135) hx hb dX12_path_129 (by decide) (fun c_129 => ?_) (fun c_129 => ?_)
                  · have t_129 : ((((fa2 yB) + (64 * ((vF 98) a5))) + 1)).toInt < ((fa2 x5)).toInt := toI_lt c_129 rfl rfl
                    obtain ⟨hFa9, hS9⟩ := hFa2.relax (fa2 := upd fa2 (nI x5).toNatClampNeg (fa2 yB + 64 * vF 98 a5 + 1)) (a := a5) (by omega) htN hx5 hyB hxy5 ex5 ey5 hc5 c_112 (by omega) (by rw [upd_at (by omega), if_pos rfl]; exact hcs) (fun w9 hw9 => by rw [upd_at (by omega), if_neg hw9])
                    refine lv_aload_n hx hb dX12_path_135 rfl (lv_at hl 1 rfl) ?_
                    refine va_get (D := (dC, dI)) (ci := 12) (v := .ref (a 102)) (C := RX12) (T := TX12) (N := 163) (fs := fM (vS a (fT vi 0 th3) vj)) hx hb hts iwsRX12_path_in12 hown hK hP 0 rfl rfl 158 (by decide) (hts _ hm_r_X12_path_0) (fun _ h9 => h9) rfl dX12_path_136 ?_
                    refine lv_aload_n hx hb dX12_path_139 rfl (lv_at hl 1 rfl) ?_
                    refine va_get (D := (dC, dI)) (ci := 12) (v := .ref (a 95)) (C := RX12) (T := TX12) (N := 163) (fs := fM (vS a (fT vi 0 th3) vj)) hx hb hts iwsRX12_path_in12 hown hK hP 0 rfl rfl 151 (by decide) (hts _ hm_r_X12_path_3) (fun _ h9 => h9) rfl dX12_path_140 ?_
                    refine lv_iload hx hb dX12_path_143 (lv_at hl 6 rfl) ?_
                    refine va_iald (cA := k 95) (n := 40) (f := (vF 95)) hx hb hK hP 96 95 (WR_get 95 (by decide)) (TR_get 95 (by decide)) (vp_in_nI (show a5 < 40 by omega) (by omega)) dX12_path_145 ?_
                    refine lv_topi (fun y15 hy15 => ?_)
                    obtain rfl : ((vF 95) a5) = y15 := (hy15.trans (by rw [nI_clamp (by omega)])).symm
                    refine lv_topi (fun y16 hy16 => ?_)
                    obtain rfl : (nI x5) = y16 := (hy16.trans (ex5)).symm
                    refine lv_iload hx hb dX12_path_146 (lv_at hl 0 rfl) ?_
                    refine va_iast (cA := k 102) (n := 12) (f := fa2) hx hb hK hP hD hS 103 102 (WR_get 102 (by decide)) (TR_get 102 (by decide)) (vp_in_nI (show x5 < 12 by omega) (by omega)) dX12_path_148 (fun H locs hP hD hS => ?_)
                    have e9 : fT vF 102 (upd fa2 ((nI x5)).toNatClampNeg (((fa2 yB) + (64 * ((vF 98) a5))) + 1)) = fT (fT vF 102 fa2) 102 (upd fa2 ((nI x5)).toNatClampNeg (((fa2 yB) + (64 * ((vF 98) a5))) + 1)) := (fT_sm _ _ _ _).symm
                    have hP := wr_PF e9 (fz_w (WR_F 102 (by decide) _ rfl) hP)
                    have hD := wr_DF e9 (fz_wD (WR_F 102 (by decide) _ rfl) hD)
                    clear e9
                    refine lv_iconst (v := 1) hx hb dX12_path_149 (by decide) ?_
                    refine lv_istore hx hb dX12_path_150 hl (by decide) rfl (fun ls (hl : lv_has ls _ ([(4, .int 1), (6, .int (((fa2 yB) + (64 * ((vF 98) a5))) + 1)), (0, .ref h0), (1, .int (nI sN)), (2, .int (nI tN)), (3, .int iI), (5, .int (nI a5))])) => ?_)
                    refine lv_iinc (v := (nI (a5 + 1))) hx hb dX12_path_152 hl (k := 6) rfl (nI_add a5 1) (by decide) rfl (fun ls (hl : lv_has ls _ ([(5, .int (nI (a5 + 1))), (4, .int 1), (6, .int (((fa2 yB) + (64 * ((vF 98) a5))) + 1)), (0, .ref h0), (1, .int (nI sN)), (2, .int (nI tN)), (3, .int iI)])) => ?_)
                    refine lv_goto (tgt := 61) hx hb dX12_path_155 (by decide) ?_
                    have hl : lv_has _ _ ([(0, .ref h0), (1, .int (nI sN)), (2, .int (nI tN)), (3, .int iI), (4, .int 1), (5, .int (nI (a5 + 1)))]) := lv_sub hl [3, 4, 5, 6, 1, 0] rfl
                    exact ih61_3 (a5 + 1) 1 (upd fa2 ((nI x5)).toNatClampNeg (((fa2 yB) + (64 * ((vF 98) a5))) + 1)) _ _ _ (by omega) (hFa9) (by rcases hM2 with ⟨h1, h2⟩ | h1; (exact Or.inr (by omega)); (exact Or.inr (by omega))) (fun h9 => absurd h9 (by decide)) (by omega) hP hD hS hl
                  · have t_129 : ¬ ((((fa2 yB) + (64 * ((vF 98) a5))) + 1)).toInt < ((fa2 x5)).toInt := toI_nlt c_129 rfl rfl
                    refine lv_goto (tgt := 152) hx hb dX12_path_132 (by decide) ?_
                    refine lv_iinc (v := (nI (a5 + 1))) hx hb dX12_path_152 hl (k := 6) rfl (nI_add a5 1) (by decide) rfl (fun ls (hl : lv_has ls _ ([(5, .int (nI (a5 + 1))), (6, .int (((fa2 yB) + (64 * ((vF 98) a5))) + 1)), (0, .ref h0), (1, .int (nI sN)), (2, .int (nI tN)), (3, .int iI), (4, .int l2)])) => ?_)
                    refine lv_goto (tgt := 61) hx hb dX12_path_155 (by decide) ?_
                    have hl : lv_has _ _ ([(0, .ref h0), (1, .int (nI sN)), (2, .int (nI tN)), (3, .int iI), (4, .int l2), (5, .int (nI (a5 + 1)))]) := lv_sub hl [2, 3, 4, 5, 6, 0] rfl
                    exact ih61_3 (a5 + 1) l2 fa2 _ _ _ (by omega) (hFa2) (hM2) (fun h9 a9 x9 y9 h1 h2 h3 h4 h5 h6 => by by_cases e9 : a9 = a5; (subst e9; (have ezx : x9 = x5 := (nI_eq (by omega) (by omega)).mp (h4.symm.trans ex5)); (have ezy : y9 = yB := (nI_eq (by omega) (by omega)).mp (h5.symm.trans ey5)); rw [ezx, ezy]; omega); (exact hCl h9 a9 x9 y9 (by omega) h2 h3 h4 h5 h6)) (by omega) hP hD hS hl
      · have t_18 : ¬ ((n1 : Nat) : Int) ≥ 12 := toI_nge c_18 (nI_toInt (by omega)) (by decide)
        refine lv_aload_n hx hb dX12_path_21 rfl (lv_at hl 0 rfl) ?_
        refine va_get (D := (dC, dI)) (ci := 12) (v := .ref (a 102)) (C := RX12) (T := TX12) (N := 163) (fs := fM (vS a (fT vi 0 th3) vj)) hx hb hts iwsRX12_path_in12 hown hK hP 0 rfl rfl 158 (by decide) (hts _ hm_r_X12_path_0) (fun _ h9 => h9) rfl dX12_path_22 ?_
        refine lv_iload hx hb dX12_path_25 (lv_at hl 4 rfl) ?_
        refine lv_iload hx hb dX12_path_27 (lv_at hl 4 rfl) ?_
        refine lv_iload_n hx hb dX12_path_29 rfl (lv_at hl 2 rfl) ?_
        refine W.cut (pc := 40) (fun H locs ls stk => ∃ (v9 : Int32), (v9 = if n1 = tN then 0 else 536870912) ∧  stk = [.int v9, .int (nI n1), .ref (a 102)] ∧ va_P (dC, dI) vwCl (WR a k h0 (fT vi 0 th3) vj (fT vF 102 f1) vG) H ∧ va_D A (WR a k h0 (fT vi 0 th3) vj (fT vF 102 f1) vG) ∧ va_S A s.heap H locs ∧ lv_has ls 7 [(0, .ref h0), (1, .int (nI sN)), (2, .int (nI tN)), (3, .int iI), (4, .int (nI n1))]) (fun join1 => ?_) ?_
        · refine lv_icmp_ne (tgt := 37) hx hb dX12_path_30 (by decide) (fun c_30 => ?_) (fun c_30 => ?_)
          · have t_30 : ((n1 : Nat) : Int) ≠ ((tN : Nat) : Int) := toI_ne c_30 (nI_toInt (by omega)) (nI_toInt (by omega))
            refine lv_ldcw (v := 536870912) hx hb hown (hts _ hm_r_X12_path_1) dX12_path_37 ?_
            have hl : lv_has _ _ ([(0, .ref h0), (1, .int (nI sN)), (2, .int (nI tN)), (3, .int iI), (4, .int (nI n1))]) := lv_sub hl [0, 1, 2, 3, 4] rfl
            exact join1 _ _ _ _ ⟨536870912, by rw [if_neg (fun e9 => c_30 (by rw [e9]))], rfl, hP, hD, hS, hl⟩
          · have t_30 : ((n1 : Nat) : Int) = ((tN : Nat) : Int) := toI_nne c_30 (nI_toInt (by omega)) (nI_toInt (by omega))
            refine lv_iconst (v := 0) hx hb dX12_path_33 (by decide) ?_
            refine lv_goto (tgt := 40) hx hb dX12_path_34 (by decide) ?_
            have hl : lv_has _ _ ([(0, .ref h0), (1, .int (nI sN)), (2, .int (nI tN)), (3, .int iI), (4, .int (nI n1))]) := lv_sub hl [0, 1, 2, 3, 4] rfl
            exact join1 _ _ _ _ ⟨0, by rw [if_pos ((nI_eq (by omega) (by omega)).mp c_30)], rfl, hP, hD, hS, hl⟩
        · rintro H locs ls stk ⟨v9, hj9, rfl, hP, hD, hS, hl⟩
          refine va_iast (cA := k 102) (n := 12) (f := f1) hx hb hK hP hD hS 103 102 (WR_get 102 (by decide)) (TR_get 102 (by decide)) (vp_in_nI (show n1 < 12 by omega) (by omega)) dX12_path_40 (fun H locs hP hD hS => ?_)
          have e9 : fT vF 102 (upd f1 ((nI n1)).toNatClampNeg v9) = fT (fT vF 102 f1) 102 (upd f1 ((nI n1)).toNatClampNeg v9) := (fT_sm _ _ _ _).symm
          have hP := wr_PF e9 (fz_w (WR_F 102 (by decide) _ rfl) hP)
          have hD := wr_DF e9 (fz_wD (WR_F 102 (by decide) _ rfl) hD)
          clear e9
          refine lv_iinc (v := (nI (n1 + 1))) hx hb dX12_path_41 hl (k := 4) rfl (nI_add n1 1) (by decide) rfl (fun ls (hl : lv_has ls _ ([(4, .int (nI (n1 + 1))), (0, .ref h0), (1, .int (nI sN)), (2, .int (nI tN)), (3, .int iI)])) => ?_)
          refine lv_goto (tgt := 14) hx hb dX12_path_44 (by decide) ?_
          have hl : lv_has _ _ ([(0, .ref h0), (1, .int (nI sN)), (2, .int (nI tN)), (3, .int iI), (4, .int (nI (n1 + 1)))]) := lv_sub hl [1, 2, 3, 4, 0] rfl
          exact ih14 (n1 + 1) (upd f1 ((nI n1)).toNatClampNeg v9) _ _ _ (by omega) (fun n hn => by rw [upd_at (by omega)]; by_cases e9 : n = n1; (rw [if_pos e9, e9]; exact hj9); (rw [if_neg e9]; exact hz n (by omega))) (by omega) hP hD hS hl
  · refine lv_if_ne (tgt := 11) hx hb dX12_path_6 (by decide) (fun c9 => absurd c9 (by decide)) (fun _ => ?_)
    refine lv_iconst (v := 0) hx hb dX12_path_9 (by decide) ?_
    refine W.widen (k := 0) (n := 0) (by decide +kernel) (by decide +kernel) ?_
    have e9 : fT vF 102 (vF 102) = vF := fT_id _ _ (rfl)
    have hP := wr_PF e9 hP
    have hD := wr_DF e9 hD
    clear e9
    exact W.iret (v := 0) hx hb hr (fun t9_ ht hW => ⟨⟨0, (th3, (vF 102)), rfl, by (try dsimp only); exact Or.inl f3_0, by rw [ht]; exact hP, hD⟩, hS.F ht⟩) hS.2.2 dX12_path_10
end
section
/-- flows lie within their rooms -/
def FlO (f97 f99 : Nat → Int32) (ar : Nat) : Prop := ∀ a, a < ar → 0 ≤ (f99 a).toInt ∧ (f99 a).toInt ≤ (f97 a).toInt
/-- prices that no arc with room undercuts, over a set of places that no arc with room leaves -/
def PoO (f95 f96 f97 f98 f99 : Nat → Int32) (ar : Nat) (R : Nat → Prop) (p : Nat → Int) : Prop := ∀ a x y, a < ar → x < 12 → y < 12 → f95 a = nI x → f96 a = nI y → ((f99 a).toInt < (f97 a).toInt → R x → R y ∧ p y ≤ p x + (f98 a).toInt) ∧ (0 < (f99 a).toInt → R y → R x ∧ p x ≤ p y - (f98 a).toInt)
/-- w is come to over arc a, out of u, at the price c -/
def Lk (f95 f96 f97 f98 f99 : Nat → Int32) (ar : Nat) (b : Int32) (w u a : Nat) (c : Int) : Prop := a < ar ∧ ((b.toInt = (a : Int) + 1 ∧ f95 a = nI u ∧ f96 a = nI w ∧ (f99 a).toInt < (f97 a).toInt ∧ c = (f98 a).toInt) ∨ (b.toInt = -((a : Int) + 1) ∧ f96 a = nI u ∧ f95 a = nI w ∧ 0 < (f99 a).toInt ∧ c = -(f98 a).toInt))
def TrO (f95 f96 f97 f98 f99 : Nat → Int32) (ar sN : Nat) (p : Nat → Int) (pr bY : Nat → Int32) (T : Nat → Nat) : Prop := ∀ w, w < 12 → pr w ≠ 536870912 → w = sN ∨ ∃ u a c, u < 12 ∧ u ≠ w ∧ Lk f95 f96 f97 f98 f99 ar (bY w) w u a c ∧ pr u ≠ 536870912 ∧ (pr u).toInt + c ≤ (pr w).toInt ∧ ((pr u).toInt - p u < (pr w).toInt - p w ∨ ((pr u).toInt - p u ≤ (pr w).toInt - p w ∧ T u < T w))
def LbO (R : Nat → Prop) (p : Nat → Int) (sN : Nat) (pr : Nat → Int32) : Prop := (pr sN).toInt = 0 ∧ ∀ v, v < 12 → pr v = 536870912 ∨ (R v ∧ p v ≤ (pr v).toInt ∧ (pr v).toInt ≤ 1000 * ((nvx 536870912 pr 12 - 1 : Nat) : Int))
def BfI (f95 f96 f97 f98 f99 : Nat → Int32) (ar sN : Nat) (R : Nat → Prop) (p : Nat → Int) (pr bY : Nat → Int32) (T : Nat → Nat) (tm : Nat) : Prop := LbO R p sN pr ∧ TrO f95 f96 f97 f98 f99 ar sN p pr bY T ∧ ∀ v, T v ≤ tm
theorem LbO.bd {R : Nat → Prop} {p : Nat → Int} {sN : Nat} {pr : Nat → Int32} (h : LbO R p sN pr) (hp : ∀ v, R v → 0 ≤ p v) {v : Nat} (hv : v < 12) : 0 ≤ (pr v).toInt ∧ (pr v).toInt ≤ 536870912 ∧ (pr v ≠ 536870912 → (pr v).toInt ≤ 11000 ∧ R v ∧ p v ≤ (pr v).toInt) := by
  have h0 := nvx_le 536870912 pr 12
  rcases h.2 v hv with h1 | ⟨h1, h2, h3⟩
  · rw [h1]; exact ⟨by decide, by decide, fun h9 => absurd rfl h9⟩
  · have h4 := hp v h1
    have h5 : ((nvx 536870912 pr 12 - 1 : Nat) : Int) ≤ 11 := by omega
    exact ⟨by omega, by omega, fun _ => ⟨by omega, h1, h2⟩⟩
theorem BfI.relax {f95 f96 f97 f98 f99 : Nat → Int32} {ar sN : Nat} {R : Nat → Prop} {p : Nat → Int} {pr bY pr2 bY2 : Nat → Int32} {T : Nat → Nat} {tm : Nat} (h : BfI f95 f96 f97 f98 f99 ar sN R p pr bY T tm) (hp : ∀ v, R v → 0 ≤ p v) (hps : p sN = 0) {u v a : Nat} {c : Int} {b : Int32} (hu : u < 12) (hv : v < 12) (huv : u ≠ v) (hc : -1000 ≤ c ∧ c ≤ 1000)
    (hL : Lk f95 f96 f97 f98 f99 ar b v u a c) (hpo : R u → R v ∧ p v ≤ p u + c) (hfu : pr u ≠ 536870912) (hl : (pr u).toInt + c < (pr v).toInt) (e1 : (pr2 v).toInt = (pr u).toInt + c) (e2 : ∀ w, w ≠ v → pr2 w = pr w) (e3 : bY2 v = b) (e4 : ∀ w, w ≠ v → bY2 w = bY w) :
    BfI f95 f96 f97 f98 f99 ar sN R p pr2 bY2 (fun w => if w = v then tm + 1 else T w) (tm + 1) ∧ sPr pr2 < sPr pr := by
  obtain ⟨hLb, hTr, hT⟩ := h
  have bu := hLb.bd hp hu
  have bv := hLb.bd hp hv
  obtain ⟨bu1, bu2, bu3⟩ := bu.2.2 hfu
  obtain ⟨hRv, hpv⟩ := hpo bu2
  have hpv0 := hp v hRv
  have hFm : (536870912 : Int32).toInt = 536870912 := by decide
  have hn1 : pr2 v ≠ 536870912 := fun e9 => by rw [e9, hFm] at e1; omega
  have hvs : v ≠ sN := fun e9 => by
    subst e9
    rw [hLb.1] at hl; omega
  have hnn : nvx 536870912 pr 12 ≤ nvx 536870912 pr2 12 ∧ (pr v = 536870912 → nvx 536870912 pr2 12 = nvx 536870912 pr 12 + 1) := by
    by_cases e9 : pr v = 536870912
    · have := nvx_up e9 hn1 e2 12 hv; exact ⟨by omega, fun _ => this⟩
    · have := nvx_same e9 hn1 e2 12; exact ⟨by omega, fun h9 => absurd h9 e9⟩
  have hp1 := nvx_pos hfu 12 hu
  refine ⟨⟨⟨by rw [e2 sN (fun e9 => hvs e9.symm)]; exact hLb.1, fun w hw => ?_⟩, fun w hw hwl => ?_, fun w => ?_⟩, sPr_dec hv e2 (by omega) (by omega)⟩
  · by_cases ew : w = v
    · subst ew
      refine Or.inr ⟨hRv, by omega, ?_⟩
      by_cases e9 : pr w = 536870912
      · rcases hLb.2 u hu with h1 | ⟨h1, h2, h3⟩
        · exact absurd h1 hfu
        · have h4 := hnn.2 e9
          rw [h4]; omega
      · rcases hLb.2 w hw with h1 | ⟨h1, h2, h3⟩
        · exact absurd h1 e9
        · omega
    · rw [e2 w ew]
      rcases hLb.2 w hw with h1 | ⟨h1, h2, h3⟩
      · exact Or.inl h1
      · exact Or.inr ⟨h1, h2, by omega⟩
  · by_cases ew : w = v
    · subst ew
      refine Or.inr ⟨u, a, c, hu, huv, by rw [e3]; exact hL, by rw [e2 u huv]; exact hfu, by rw [e2 u huv]; omega, Or.inr ⟨by rw [e2 u huv]; omega, ?_⟩⟩
      dsimp only; rw [if_neg huv, if_pos rfl]; have := hT u; omega
    · rw [e2 w ew] at hwl
      rcases hTr w hw hwl with h1 | ⟨u', a', c', k1, k2, k3, k4, k5, k6⟩
      · exact Or.inl h1
      · by_cases eu : u' = v
        · subst eu
          refine Or.inr ⟨u', a', c', k1, k2, by rw [e4 w ew]; exact k3, hn1, by rw [e2 w ew]; omega, Or.inl ?_⟩
          rw [e2 w ew]; omega
        · refine Or.inr ⟨u', a', c', k1, k2, by rw [e4 w ew]; exact k3, by rw [e2 u' eu]; exact k4, by rw [e2 u' eu, e2 w ew]; exact k5, ?_⟩
          dsimp only; rw [e2 u' eu, e2 w ew, if_neg eu, if_neg ew]; exact k6
  · show (if w = v then tm + 1 else T w) ≤ tm + 1
    split
    · exact Nat.le_refl _
    · have := hT w; omega
/-- no arc with room undercuts the prices -/
def PrC (f95 f96 f97 f98 f99 : Nat → Int32) (n : Nat) (pr : Nat → Int32) : Prop := ∀ a x y, a < n → x < 12 → y < 12 → f95 a = nI x → f96 a = nI y → ((f99 a).toInt < (f97 a).toInt → pr x ≠ 536870912 → (pr y).toInt ≤ (pr x).toInt + (f98 a).toInt) ∧ (0 < (f99 a).toInt → pr y ≠ 536870912 → (pr x).toInt ≤ (pr y).toInt - (f98 a).toInt)
/-- the tree of ways, with a rank that falls towards s -/
def TrK (f95 f96 f97 f98 f99 : Nat → Int32) (ar sN : Nat) (pr bY : Nat → Int32) (rk : Nat → Nat) : Prop := ∀ w, w < 12 → pr w ≠ 536870912 → w ≠ sN → ∃ u a c, u < 12 ∧ u ≠ w ∧ Lk f95 f96 f97 f98 f99 ar (bY w) w u a c ∧ pr u ≠ 536870912 ∧ (pr u).toInt + c ≤ (pr w).toInt ∧ rk u < rk w
theorem BfI.rank {f95 f96 f97 f98 f99 : Nat → Int32} {ar sN : Nat} {R : Nat → Prop} {p : Nat → Int} {pr bY : Nat → Int32} {T : Nat → Nat} {tm : Nat} (h : BfI f95 f96 f97 f98 f99 ar sN R p pr bY T tm) (hp : ∀ v, R v → 0 ≤ p v) : ∃ rk, TrK f95 f96 f97 f98 f99 ar sN pr bY rk := by
  refine ⟨fun w => ((pr w).toInt - p w).toNat * (tm + 1) + T w, fun w hw hwl hws => ?_⟩
  obtain ⟨u, a, c, k1, k2, k3, k4, k5, k6⟩ := (h.2.1 w hw hwl).resolve_left hws
  refine ⟨u, a, c, k1, k2, k3, k4, k5, ?_⟩
  have b1 := (h.1.bd hp k1).2.2 k4
  have b2 := (h.1.bd hp hw).2.2 hwl
  have t1 := h.2.2 u
  show ((pr u).toInt - p u).toNat * (tm + 1) + T u < ((pr w).toInt - p w).toNat * (tm + 1) + T w
  rcases k6 with k6 | ⟨k6, k7⟩
  · have h1 : ((pr u).toInt - p u).toNat + 1 ≤ ((pr w).toInt - p w).toNat := by omega
    have h2 := Nat.mul_le_mul_right (tm + 1) h1
    rw [Nat.add_mul, Nat.one_mul] at h2; omega
  · have h1 : ((pr u).toInt - p u).toNat ≤ ((pr w).toInt - p w).toNat := by omega
    have h2 := Nat.mul_le_mul_right (tm + 1) h1
    omega
/-- behind the flow along the tree the prices hold again -/
theorem PoO.after {f95 f96 f97 f98 f99 g99 : Nat → Int32} {ar sN : Nat} {pr bY : Nat → Int32} {rk : Nat → Nat} (hA : ArO f95 f96 f97 f98 ar) (hT : TrK f95 f96 f97 f98 f99 ar sN pr bY rk) (hC : PrC f95 f96 f97 f98 f99 ar pr) (hb : ∀ v, v < 12 → (pr v).toInt ≤ 536870912 ∧ (pr v ≠ 536870912 → (pr v).toInt ≤ 11000))
    (hg : ∀ a, a < ar → g99 a = f99 a ∨ ∃ w, w < 12 ∧ pr w ≠ 536870912 ∧ w ≠ sN ∧ ((bY w).toInt = (a : Int) + 1 ∨ (bY w).toInt = -((a : Int) + 1))) :
    PoO f95 f96 f97 f98 g99 ar (fun v => v < 12 ∧ pr v ≠ 536870912) (fun v => (pr v).toInt) := by
  have hFm : (536870912 : Int32).toInt = 536870912 := by decide
  have lab : ∀ v, v < 12 → (pr v).toInt ≤ 100000 → pr v ≠ 536870912 := fun v hv h9 e9 => by rw [e9, hFm] at h9; omega
  intro a x y ha hx hy ex ey
  obtain ⟨x', y', a1, a2, a3, a4, a5, a6, a7⟩ := hA a ha
  have exx : x' = x := (nI_eq (by omega) (by omega)).mp (a4.symm.trans ex)
  have eyy : y' = y := (nI_eq (by omega) (by omega)).mp (a5.symm.trans ey)
  subst exx eyy
  have hc := hC a x' y' ha hx hy ex ey
  have key : (∃ w, w < 12 ∧ pr w ≠ 536870912 ∧ w ≠ sN ∧ ((bY w).toInt = (a : Int) + 1 ∨ (bY w).toInt = -((a : Int) + 1))) → pr x' ≠ 536870912 ∧ pr y' ≠ 536870912 ∧ (((pr x').toInt ≤ (pr y').toInt - (f98 a).toInt ∧ (pr y').toInt ≤ (pr x').toInt + (f98 a).toInt) ∨ ((pr y').toInt ≤ (pr x').toInt + (f98 a).toInt ∧ (pr x').toInt ≤ (pr y').toInt - (f98 a).toInt)) := by
    rintro ⟨w, h1, h2, h3, h4⟩
    obtain ⟨u, a', c, k1, k2, ⟨k3, k4⟩, k5, k6, k7⟩ := hT w h1 h2 h3
    rcases k4 with ⟨j1, j2, j3, j4, j5⟩ | ⟨j1, j2, j3, j4, j5⟩
    · have ea : a' = a := by omega
      subst ea
      have eu : u = x' := (nI_eq (by omega) (by omega)).mp (j2.symm.trans ex)
      have ew : w = y' := (nI_eq (by omega) (by omega)).mp (j3.symm.trans ey)
      subst eu ew
      have := hc.1 j4 k5
      exact ⟨k5, h2, Or.inl ⟨by omega, by omega⟩⟩
    · have ea : a' = a := by omega
      subst ea
      have eu : u = y' := (nI_eq (by omega) (by omega)).mp (j2.symm.trans ey)
      have ew : w = x' := (nI_eq (by omega) (by omega)).mp (j3.symm.trans ex)
      subst eu ew
      have := hc.2 j4 k5
      exact ⟨h2, k5, Or.inr ⟨by omega, by omega⟩⟩
  rcases hg a ha with e | e
  · rw [e]
    refine ⟨fun h1 h2 => ?_, fun h1 h2 => ?_⟩
    · have h3 := hc.1 h1 h2.2
      have h4 := (hb x' hx).2 h2.2
      exact ⟨⟨hy, lab y' hy (by omega)⟩, h3⟩
    · have h3 := hc.2 h1 h2.2
      have h4 := (hb y' hy).2 h2.2
      exact ⟨⟨hx, lab x' hx (by omega)⟩, h3⟩
  · obtain ⟨q1, q2, q3⟩ := key e
    refine ⟨fun _ _ => ⟨⟨hy, q2⟩, ?_⟩, fun _ _ => ⟨⟨hx, q1⟩, ?_⟩⟩ <;> rcases q3 with q3 | q3 <;> (dsimp only; omega)
/-- two places of the tree are come to over two arcs -/
theorem TrK.apart {f95 f96 f97 f98 f99 : Nat → Int32} {ar sN : Nat} {pr bY : Nat → Int32} {rk : Nat → Nat} (hT : TrK f95 f96 f97 f98 f99 ar sN pr bY rk) {w1 w2 u1 u2 a : Nat} {c1 c2 : Int} (h1 : w1 < 12) (h2 : w2 < 12) (g1 : u1 < 12) (g2 : u2 < 12) (k1 : Lk f95 f96 f97 f98 f99 ar (bY w1) w1 u1 a c1) (k2 : Lk f95 f96 f97 f98 f99 ar (bY w2) w2 u2 a c2) (r1 : rk u1 < rk w1) (r2 : rk u2 < rk w2) : w1 = w2 := by
  obtain ⟨q1, k1⟩ := k1
  obtain ⟨q2, k2⟩ := k2
  rcases k1 with ⟨j1, j2, j3, j4, j5⟩ | ⟨j1, j2, j3, j4, j5⟩ <;> rcases k2 with ⟨i1, i2, i3, i4, i5⟩ | ⟨i1, i2, i3, i4, i5⟩
  · exact (nI_eq (by omega) (by omega)).mp (j3.symm.trans i3)
  · have e1 : u1 = w2 := (nI_eq (by omega) (by omega)).mp (j2.symm.trans i3)
    have e2 : u2 = w1 := (nI_eq (by omega) (by omega)).mp (i2.symm.trans j3)
    subst e1 e2; omega
  · have e1 : u1 = w2 := (nI_eq (by omega) (by omega)).mp (j2.symm.trans i3)
    have e2 : u2 = w1 := (nI_eq (by omega) (by omega)).mp (i2.symm.trans j3)
    subst e1 e2; omega
  · exact (nI_eq (by omega) (by omega)).mp (j3.symm.trans i3)
end
section
theorem by_f {b : Int32} {a : Nat} (h : b.toInt = (a : Int) + 1) (ha : a < 40) : b - 1 = nI a := by
  refine Int32.toInt_inj.mp ?_
  rw [nI_toInt (by omega), subB (by omega) (by decide), h]
  have : (1 : Int32).toInt = 1 := by decide
  omega
theorem by_b {b : Int32} {a : Nat} (h : b.toInt = -((a : Int) + 1)) (ha : a < 40) : -b - 1 = nI a := by
  have h1 := (neg32 (x := b) (b := 100) (by omega) (by decide)).2
  refine Int32.toInt_inj.mp ?_
  rw [nI_toInt (by omega), subB (by omega) (by decide), h1, h]
  have : (1 : Int32).toInt = 1 := by decide
  omega
/-- what an arc has room for, in its way -/
def rsd (f97 f99 : Nat → Int32) (b : Int32) (a : Nat) : Int := if 0 < b.toInt then (f97 a).toInt - (f99 a).toInt else (f99 a).toInt
/-- places that were passed: each has room for n, and leads to one that was passed, or to v -/
def VsO (f95 f96 f97 f98 f99 : Nat → Int32) (ar sN : Nat) (pr bY : Nat → Int32) (rk : Nat → Nat) (V : Nat → Prop) (n : Int) (v : Nat) : Prop := ∀ w, V w → w < 12 ∧ pr w ≠ 536870912 ∧ w ≠ sN ∧ ∃ u a c, u < 12 ∧ Lk f95 f96 f97 f98 f99 ar (bY w) w u a c ∧ rk u < rk w ∧ n ≤ rsd f97 f99 (bY w) a ∧ (V u ∨ u = v)
theorem VsO.next {f95 f96 f97 f98 f99 : Nat → Int32} {ar sN : Nat} {pr bY : Nat → Int32} {rk : Nat → Nat} {V : Nat → Prop} {n n2 : Int} {v u a : Nat} {c : Int} (h : VsO f95 f96 f97 f98 f99 ar sN pr bY rk V n v) (hv : v < 12) (hl : pr v ≠ 536870912) (hs : v ≠ sN) (hu : u < 12) (hk : Lk f95 f96 f97 f98 f99 ar (bY v) v u a c) (hr : rk u < rk v) (h1 : n2 ≤ n) (h2 : n2 ≤ rsd f97 f99 (bY v) a) : VsO f95 f96 f97 f98 f99 ar sN pr bY rk (fun w => V w ∨ w = v) n2 u := by
  intro w hw
  rcases hw with hw | hw
  · obtain ⟨k1, k2, k3, u', a', c', k4, k5, k6, k7, k8⟩ := h w hw
    exact ⟨k1, k2, k3, u', a', c', k4, k5, k6, by omega, Or.inl k8⟩
  · subst hw; exact ⟨hv, hl, hs, u, a, c, hu, hk, hr, h2, Or.inr rfl⟩
end
section
/-! flows: what is left across a set of nodes -/
def sB : Bool → Int → Int
  | true, k => k
  | false, _ => 0
def sW (S : Nat → Bool) (n : Nat) (k : Int) : Int := sB (S n) k
theorem sB_add (b : Bool) (k m : Int) : sB b (k + m) = sB b k + sB b m := by
  cases b
  · rfl
  · rfl
theorem sB_neg (b : Bool) (k : Int) : sB b (-k) = - sB b k := by
  cases b
  · rfl
  · rfl
theorem sW_add (S : Nat → Bool) (n : Nat) (k m : Int) : sW S n (k + m) = sW S n k + sW S n m := sB_add _ _ _
theorem sW_neg (S : Nat → Bool) (n : Nat) (k : Int) : sW S n (-k) = - sW S n k := sB_neg _ _
theorem sW_0 (S : Nat → Bool) (n : Nat) : sW S n 0 = 0 := by
  unfold sW
  cases S n
  · rfl
  · rfl
theorem sW_in {S : Nat → Bool} {n : Nat} (h : S n = true) (k : Int) : sW S n k = k := by
  unfold sW
  rw [h]
  rfl
theorem sW_out {S : Nat → Bool} {n : Nat} (h : S n = false) (k : Int) : sW S n k = 0 := by
  unfold sW
  rw [h]
  rfl
def tRo (d : NtD) (b : Nat) : Int := (d.2.2.2.1 b).toInt
/-- an arc's part of what is left from within a set to without -/
def rsB : Bool → Bool → Int → Int → Int
  | true, false, r, f => r - f
  | false, true, _, f => f
  | _, _, _, _ => 0
theorem rsB_add (b c : Bool) (r f k : Int) : rsB b c r (f + k) = rsB b c r f - (sB b k - sB c k) := by
  cases b
  · cases c
    · show (0 : Int) = 0 - (0 - 0)
      omega
    · show f + k = f - (0 - k)
      omega
  · cases c
    · show r - (f + k) = r - f - (k - 0)
      omega
    · show (0 : Int) = 0 - (k - k)
      omega
theorem rsB_pos (b c : Bool) {r f : Int} (h0 : 0 ≤ f) (h1 : f ≤ r) : 0 ≤ rsB b c r f := by
  cases b
  · cases c
    · exact Int.le_refl _
    · exact h0
  · cases c
    · show 0 ≤ r - f
      omega
    · exact Int.le_refl _
def rsA (d : NtD) (fl : Nat → Int) (S : Nat → Bool) : Nat → Int
  | 0 => 0
  | m + 1 => rsA d fl S m + rsB (S (tFr d m)) (S (tTo d m)) (tRo d m) (fl m)
/-- the room across a set -/
def cpA (d : NtD) (S : Nat → Bool) (m : Nat) : Int := rsA d (fun _ => 0) S m
def fI (f : Nat → Int32) : Nat → Int := fun a => (f a).toInt
theorem rsA_same {d : NtD} {S : Nat → Bool} {fl gl : Nat → Int} : ∀ {m : Nat}, (∀ a, a < m → gl a = fl a) → rsA d gl S m = rsA d fl S m := by
  intro m
  induction m with
  | zero => intro _; rfl
  | succ m ih =>
    intro h
    show rsA d gl S m + rsB _ _ _ (gl m) = rsA d fl S m + rsB _ _ _ (fl m)
    rw [ih (fun a ha => h a (by omega)), h m (by omega)]
theorem rsA_put {d : NtD} {S : Nat → Bool} {fl gl : Nat → Int} {a : Nat} {k : Int} : ∀ {m : Nat}, a < m → gl a = fl a + k → (∀ b, b ≠ a → gl b = fl b) → rsA d gl S m = rsA d fl S m - (sW S (tFr d a) k - sW S (tTo d a) k) := by
  intro m
  induction m with
  | zero => intro h; exact absurd h (Nat.not_lt_zero a)
  | succ m ih =>
    intro ha h1 h2
    show rsA d gl S m + rsB (S (tFr d m)) (S (tTo d m)) (tRo d m) (gl m) = rsA d fl S m + rsB (S (tFr d m)) (S (tTo d m)) (tRo d m) (fl m) - (sW S (tFr d a) k - sW S (tTo d a) k)
    by_cases e : a = m
    · subst e
      rw [rsA_same (fun b hb => h2 b (by omega)), h1, rsB_add]
      unfold sW
      omega
    · rw [ih (by omega) h1 h2, h2 m (Ne.symm e)]
      omega
theorem rsA_pos {d : NtD} {S : Nat → Bool} {fl : Nat → Int} : ∀ {m : Nat}, (∀ a, a < m → 0 ≤ fl a ∧ fl a ≤ tRo d a) → 0 ≤ rsA d fl S m := by
  intro m
  induction m with
  | zero => intro _; exact Int.le_refl _
  | succ m ih =>
    intro h
    show 0 ≤ rsA d fl S m + rsB _ _ _ (fl m)
    have h1 := ih (fun a ha => h a (by omega))
    have h2 := h m (by omega)
    have h3 := rsB_pos (S (tFr d m)) (S (tTo d m)) h2.1 h2.2
    omega
/-- no room is left from within to without -/
def flC (d : NtD) (fl : Nat → Int) (S : Nat → Bool) (m : Nat) : Prop := ∀ a, a < m → (S (tFr d a) = true → S (tTo d a) = false → fl a = tRo d a) ∧ (S (tFr d a) = false → S (tTo d a) = true → fl a = 0)
theorem flC.zero {d : NtD} {S : Nat → Bool} {fl : Nat → Int} : ∀ {m : Nat}, flC d fl S m → rsA d fl S m = 0 := by
  intro m
  induction m with
  | zero => intro _; rfl
  | succ m ih =>
    intro h
    show rsA d fl S m + rsB (S (tFr d m)) (S (tTo d m)) (tRo d m) (fl m) = 0
    rw [ih (fun a ha => h a (by omega))]
    have h9 := h m (by omega)
    cases e1 : S (tFr d m)
    · cases e2 : S (tTo d m)
      · rfl
      · show 0 + fl m = 0
        rw [h9.2 e1 e2]
        rfl
    · cases e2 : S (tTo d m)
      · show 0 + (tRo d m - fl m) = 0
        rw [h9.1 e1 e2]
        omega
      · rfl
theorem flC.of {d : NtD} {S : Nat → Bool} {fl : Nat → Int} : ∀ {m : Nat}, (∀ a, a < m → 0 ≤ fl a ∧ fl a ≤ tRo d a) → rsA d fl S m = 0 → flC d fl S m := by
  intro m
  induction m with
  | zero => intro _ _ a ha; exact absurd ha (Nat.not_lt_zero a)
  | succ m ih =>
    intro h h0
    have h1 : rsA d fl S m + rsB (S (tFr d m)) (S (tTo d m)) (tRo d m) (fl m) = 0 := h0
    have h2 := rsA_pos (d := d) (S := S) (fl := fl) (m := m) (fun a ha => h a (by omega))
    have h4 := h m (by omega)
    have h3 := rsB_pos (S (tFr d m)) (S (tTo d m)) h4.1 h4.2
    have h5 := ih (fun a ha => h a (by omega)) (by omega)
    have h6 : rsB (S (tFr d m)) (S (tTo d m)) (tRo d m) (fl m) = 0 := by omega
    intro a ha
    by_cases e : a = m
    · subst e
      constructor
      · intro e1 e2
        rw [e1, e2] at h6
        have h7 : tRo d a - fl a = 0 := h6
        omega
      · intro e1 e2
        rw [e1, e2] at h6
        exact h6
    · exact h5 a (by omega)
theorem cpA_le {d : NtD} {S : Nat → Bool} : ∀ {m : Nat}, (∀ a, a < m → 0 ≤ tRo d a ∧ tRo d a ≤ 1000) → cpA d S m ≤ 1000 * (m : Int) := by
  intro m
  induction m with
  | zero => intro _; exact Int.le_refl _
  | succ m ih =>
    intro h
    have h1 : cpA d S m ≤ 1000 * (m : Int) := ih (fun a ha => h a (by omega))
    have h2 := h m (by omega)
    have h3 : rsB (S (tFr d m)) (S (tTo d m)) (tRo d m) 0 ≤ 1000 := by
      cases S (tFr d m)
      · cases S (tTo d m)
        · show (0 : Int) ≤ 1000; omega
        · show (0 : Int) ≤ 1000; omega
      · cases S (tTo d m)
        · show tRo d m - 0 ≤ 1000; omega
        · show (0 : Int) ≤ 1000; omega
    show cpA d S m + rsB (S (tFr d m)) (S (tTo d m)) (tRo d m) 0 ≤ 1000 * ((m + 1 : Nat) : Int)
    omega
def sep (s t : Nat) (S : Nat → Bool) : Prop := S s = true ∧ S t = false
/-- the greatest flow: the room across the narrowest set -/
def mxF (d : NtD) (s t : Nat) (r : Int) : Prop := (∃ R, sep s t R ∧ cpA d R d.1.toNat = r) ∧ ∀ S, sep s t S → r ≤ cpA d S d.1.toNat
theorem mxF.eq {d : NtD} {s t : Nat} {r q : Int} (h : mxF d s t r) (h2 : mxF d s t q) : r = q := by
  obtain ⟨⟨R, hR, eR⟩, hr⟩ := h
  obtain ⟨⟨Q, hQ, eQ⟩, hq⟩ := h2
  have h3 := hr Q hQ
  have h4 := hq R hR
  omega
/-- the narrowest set that is within all narrowest ones -/
def mxC (d : NtD) (s t : Nat) (x : Int32) : Prop := sep s t (bI x) ∧ (∀ S, sep s t S → cpA d (bI x) d.1.toNat ≤ cpA d S d.1.toNat) ∧ (∀ S, sep s t S → cpA d S d.1.toNat = cpA d (bI x) d.1.toNat → ∀ n, n < 12 → bI x n = true → S n = true) ∧ ∀ n, bI x n = true → n < 12
theorem mxC.eq {d : NtD} {s t : Nat} {x y : Int32} (h : mxC d s t x) (h2 : mxC d s t y) : x = y := by
  obtain ⟨a1, a2, a3, a4⟩ := h
  obtain ⟨b1, b2, b3, b4⟩ := h2
  have e : cpA d (bI y) d.1.toNat = cpA d (bI x) d.1.toNat := by
    have h3 := a2 (bI y) b1
    have h4 := b2 (bI x) a1
    omega
  refine bI_ext (fun j _ => ?_)
  cases e1 : bI x j
  · cases e2 : bI y j
    · rfl
    · have := b3 (bI x) a1 e.symm j (b4 j e2) e2
      rw [e1] at this
      cases this
  · exact (a3 (bI y) b1 e j (a4 j e1) e1).symm
/-- what a flow shows -/
def rsI (d : NtD) (s t : Nat) (fl : Nat → Int) (v : Int) (m : Nat) : Prop := ∀ S, rsA d fl S m = cpA d S m - (sW S s v - sW S t v)
theorem rsI.start {d : NtD} {s t m : Nat} {fl : Nat → Int} (h : ∀ a, a < m → fl a = 0) : rsI d s t fl 0 m := fun S => by
  rw [sW_0, sW_0]
  have h9 := rsA_same (d := d) (S := S) (fl := fun _ => 0) (gl := fl) (m := m) h
  show rsA d fl S m = rsA d (fun _ => 0) S m - (0 - 0)
  omega
theorem rsI.more {d : NtD} {s t m : Nat} {fl gl : Nat → Int} {v k w : Int} (h : rsI d s t fl v m) (h2 : ∀ S, rsA d gl S m = rsA d fl S m - (sW S s k - sW S t k)) (hw : w = v + k) : rsI d s t gl w m := fun S => by
  rw [h2 S, h S, hw, sW_add, sW_add]
  omega
theorem rsI.le {d : NtD} {s t m : Nat} {fl : Nat → Int} {v : Int} (h : rsI d s t fl v m) (hf : ∀ a, a < m → 0 ≤ fl a ∧ fl a ≤ tRo d a) {S : Nat → Bool} (hS : sep s t S) : v ≤ cpA d S m := by
  have h1 := rsA_pos (d := d) (S := S) (fl := fl) (m := m) hf
  have h2 := h S
  rw [sW_in hS.1, sW_out hS.2] at h2
  omega
theorem rsI.at {d : NtD} {s t m : Nat} {fl : Nat → Int} {v : Int} (h : rsI d s t fl v m) {S : Nat → Bool} (hS : sep s t S) (hc : flC d fl S m) : cpA d S m = v := by
  have h2 := h S
  rw [sW_in hS.1, sW_out hS.2, hc.zero] at h2
  omega
theorem rsI.max {d : NtD} {s t : Nat} {fl : Nat → Int} {v : Int} (h : rsI d s t fl v d.1.toNat) (hf : ∀ a, a < d.1.toNat → 0 ≤ fl a ∧ fl a ≤ tRo d a) {R : Nat → Bool} (hR : sep s t R) (hc : flC d fl R d.1.toNat) : mxF d s t v :=
  ⟨⟨R, hR, h.at hR hc⟩, fun _ hS => h.le hf hS⟩
theorem rsI.cut {d : NtD} {s t : Nat} {fl : Nat → Int} {v : Int} {x : Int32} (h : rsI d s t fl v d.1.toNat) (hf : ∀ a, a < d.1.toNat → 0 ≤ fl a ∧ fl a ≤ tRo d a) {R : Nat → Bool} (hR : sep s t R) (hRc : flC d fl R d.1.toNat) (ht : t < 12) (hx : bI x s = true) (hc : flC d fl (bI x) d.1.toNat) (hm : ∀ S, S s = true → flC d fl S d.1.toNat → ∀ n, n < 12 → bI x n = true → S n = true) (hn : ∀ n, bI x n = true → n < 12) : mxC d s t x := by
  have hs : sep s t (bI x) := by
    refine ⟨hx, ?_⟩
    cases e : bI x t
    · rfl
    · have h9 := hm R hR.1 hRc t ht e
      rw [hR.2] at h9
      cases h9
  have e1 := h.at hs hc
  refine ⟨hs, fun S hS => ?_, fun S hS e n hn9 hx9 => ?_, hn⟩
  · rw [e1]; exact h.le hf hS
  · rw [e1] at e
    have h2 := h S
    rw [sW_in hS.1, sW_out hS.2, e] at h2
    exact hm S hS.1 (flC.of hf (by omega)) n hn9 hx9
theorem tFr_nI {d : NtD} {b x : Nat} (hx : x < 12) (h : d.2.1 b = nI x) : tFr d b = x := by
  unfold tFr
  rw [h, nI_toInt (by omega)]
  omega
theorem tTo_nI {d : NtD} {b x : Nat} (hx : x < 12) (h : d.2.2.1 b = nI x) : tTo d b = x := by
  unfold tTo
  rw [h, nI_toInt (by omega)]
  omega
/-- rooms -/
def tRm (d : NtD) : Prop := ∀ b : Nat, (b : Int) < d.1 → 0 ≤ tRo d b ∧ tRo d b ≤ 1000 ∧ tFr d b ≠ tTo d b
theorem flC_end {f95 f96 f97 f98 f99 pr : Nat → Int32} {ar sN tN : Nat} (hA : ArO f95 f96 f97 f98 ar) (hF : FlO f97 f99 ar) (hC : PrC f95 f96 f97 f98 f99 ar pr) (hb : ∀ v, v < 12 → (pr v).toInt ≤ 536870912 ∧ (pr v ≠ 536870912 → (pr v).toInt ≤ 11000)) (h0 : (pr sN).toInt = 0) (ht12 : tN < 12) (ht : (pr tN).toInt ≥ 536870912) : ∃ R, sep sN tN R ∧ flC (((ar : Nat) : Int), f95, f96, f97, f98) (fI f99) R ar := by
  have hF9 : (536870912 : Int32).toInt = 536870912 := by decide
  have hns : pr sN ≠ 536870912 := fun e => by rw [e, hF9] at h0; omega
  have hnt : pr tN = 536870912 := by
    have h9 := (hb tN ht12).1
    exact Int32.toInt_inj.mp (by rw [hF9]; omega)
  refine ⟨fun v => decide (pr v ≠ 536870912), ⟨decide_eq_true hns, decide_eq_false (fun h => h hnt)⟩, ?_⟩
  intro a ha
  obtain ⟨x, y, hx, hy, hxy, ex, ey, hr, hc⟩ := hA a ha
  have hf := hF a ha
  have hp := hC a x y ha hx hy ex ey
  have bx := hb x hx
  have bY := hb y hy
  rw [tFr_nI (d := (((ar : Nat) : Int), f95, f96, f97, f98)) hx ex, tTo_nI (d := (((ar : Nat) : Int), f95, f96, f97, f98)) hy ey]
  constructor
  · intro k1 k2
    have n1 : pr x ≠ 536870912 := of_decide_eq_true k1
    have n2 : pr y = 536870912 := Classical.not_not.mp (of_decide_eq_false k2)
    show (f99 a).toInt = (f97 a).toInt
    by_cases e : (f99 a).toInt < (f97 a).toInt
    · have h9 := hp.1 e n1
      rw [n2, hF9] at h9
      have h8 := bx.2 n1
      omega
    · omega
  · intro k1 k2
    have n1 : pr x = 536870912 := Classical.not_not.mp (of_decide_eq_false k1)
    have n2 : pr y ≠ 536870912 := of_decide_eq_true k2
    show (f99 a).toInt = 0
    by_cases e : 0 < (f99 a).toInt
    · have h9 := hp.2 e n2
      rw [n1, hF9] at h9
      have h8 := bY.2 n2
      omega
    · omega
theorem FlO.ro {f95 f96 f97 f98 f99 : Nat → Int32} {ar : Nat} (hF : FlO f97 f99 ar) : ∀ a, a < (((ar : Nat) : Int)).toNat → 0 ≤ fI f99 a ∧ fI f99 a ≤ tRo (((ar : Nat) : Int), f95, f96, f97, f98) a := fun a ha => hF a (by omega)
theorem ArO.ro {f95 f96 f97 f98 : Nat → Int32} {ar : Nat} (hA : ArO f95 f96 f97 f98 ar) : ∀ a, a < ar → 0 ≤ tRo (((ar : Nat) : Int), f95, f96, f97, f98) a ∧ tRo (((ar : Nat) : Int), f95, f96, f97, f98) a ≤ 1000 := fun a ha => by
  obtain ⟨x, y, hx, hy, hxy, ex, ey, hr, hc⟩ := hA a ha
  exact hr
theorem ArO.rm {f95 f96 f97 f98 : Nat → Int32} {ar : Nat} (hA : ArO f95 f96 f97 f98 ar) : tRm (((ar : Nat) : Int), f95, f96, f97, f98) := fun a ha => by
  obtain ⟨x, y, hx, hy, hxy, ex, ey, hr, hc⟩ := hA a (by (try dsimp only at ha); omega)
  rw [tFr_nI (d := (((ar : Nat) : Int), f95, f96, f97, f98)) hx ex, tTo_nI (d := (((ar : Nat) : Int), f95, f96, f97, f98)) hy ey]
  exact ⟨hr.1, hr.2, hxy⟩
/-- a flow of a hundred thousand can't be sent -/
theorem rsI.lim {f95 f96 f97 f98 f99 : Nat → Int32} {ar sN tN : Nat} {v : Int} (hA : ArO f95 f96 f97 f98 ar) (h40 : ar ≤ 40) (hF : FlO f97 f99 ar) (hts : tN ≠ sN) (h : rsI (((ar : Nat) : Int), f95, f96, f97, f98) sN tN (fI f99) v ar) : v ≤ 40000 := by
  have h1 := h.le (S := fun n => decide (n = sN)) (fun a ha => hF a ha) ⟨decide_eq_true rfl, decide_eq_false hts⟩
  have h2 := cpA_le (d := (((ar : Nat) : Int), f95, f96, f97, f98)) (S := fun n => decide (n = sN)) (m := ar) (ArO.ro hA)
  omega
theorem rsI.great {f95 f96 f97 f98 f99 : Nat → Int32} {ar sN tN : Nat} {v a : Int} (hA : ArO f95 f96 f97 f98 ar) (h40 : ar ≤ 40) (hF : FlO f97 f99 ar) (hts : tN ≠ sN) (h : rsI (((ar : Nat) : Int), f95, f96, f97, f98) sN tN (fI f99) v ar) (hE : v < a → ∃ R, sep sN tN R ∧ flC (((ar : Nat) : Int), f95, f96, f97, f98) (fI f99) R ar) (ha : a = 100000) : mxF (((ar : Nat) : Int), f95, f96, f97, f98) sN tN v := by
  obtain ⟨R, hR, hc⟩ := hE (by have := rsI.lim hA h40 hF hts h; omega)
  exact rsI.max (fl := fI f99) h (FlO.ro hF) hR hc
theorem bI_pow {i j : Nat} (hi : i < 12) : bI (nI (2 ^ i)) j = decide (j = i) := by
  rw [← pow_bit i (by omega)]
  exact bI_1 (by omega)
theorem bI_set {a s y n : Nat} (hy : y < 12) (e : nI a ||| ((1 : Int32) <<< (nI y &&& 31)) = nI s) : bI (nI s) n = (bI (nI a) n || decide (n = y)) := by
  rw [← e, bI_or, bI_1 (by omega)]
theorem bI_onej (j : Nat) : bI 1 j = decide (j = 0) := by
  have h := bI_1 (i := 0) (j := j) (by decide)
  rw [show ((1 : Int32) <<< (nI 0 &&& 31)) = 1 from by decide] at h
  exact h
theorem bI_and1t {y : Int32} (h : bI y 0 = true) : (y &&& 1) = 1 := by
  refine bI_ext (fun j _ => ?_)
  rw [bI_and, bI_onej]
  by_cases e : j = 0
  · rw [e, h]
    rfl
  · rw [decide_eq_false e, Bool.and_false]
theorem bI_oneT {x : Int32} {k : Nat} (hk : k < 32) (h : bI x k = true) : ((x >>> (nI k &&& 31)) &&& 1) = 1 := bI_and1t (by rw [bI_shr hk]; exact h)
theorem bI_one {x : Int32} {k : Nat} (hk : k < 32) (h : ((x >>> (nI k &&& 31)) &&& 1) = 1) : bI x k = true := by
  cases e : bI x k
  · have h9 := (bI_test hk).mpr e
    rw [h] at h9
    exact absurd h9 (by decide)
  · rfl
theorem flC.ahead {d : NtD} {fl : Nat → Int} {S : Nat → Bool} {m a x y : Nat} (h : flC d fl S m) (ha : a < m) (ex : tFr d a = x) (ey : tTo d a = y) (h1 : S x = true) (h2 : fl a < tRo d a) : S y = true := by
  subst ex ey
  cases e : S (tTo d a)
  · have h9 := (h a ha).1 h1 e
    omega
  · rfl
theorem flC.back {d : NtD} {fl : Nat → Int} {S : Nat → Bool} {m a x y : Nat} (h : flC d fl S m) (ha : a < m) (ex : tFr d a = x) (ey : tTo d a = y) (h1 : S y = true) (h2 : 0 < fl a) : S x = true := by
  subst ex ey
  cases e : S (tFr d a)
  · have h9 := (h a ha).2 e h1
    omega
  · rfl
theorem flC.next {d : NtD} {fl : Nat → Int} {S : Nat → Bool} {a x y : Nat} (h : flC d fl S a) (ex : tFr d a = x) (ey : tTo d a = y) (hb : 0 ≤ fl a ∧ fl a ≤ tRo d a) (h1 : ¬ (fl a < tRo d a ∧ S x = true ∧ S y = false)) (h2 : ¬ (0 < fl a ∧ S y = true ∧ S x = false)) : flC d fl S (a + 1) := by
  intro b hb9
  by_cases e : b = a
  · subst e ex ey
    refine ⟨fun k1 k2 => Classical.byContradiction (fun e9 => h1 ⟨by omega, k1, k2⟩), fun k1 k2 => Classical.byContradiction (fun e9 => h2 ⟨by omega, k2, k1⟩)⟩
  · exact h b (by omega)
theorem rsI.seen {f95 f96 f97 f98 f99 : Nat → Int32} {ar sN tN : Nat} {v a : Int} {x : Int32} (hA : ArO f95 f96 f97 f98 ar) (h40 : ar ≤ 40) (hF : FlO f97 f99 ar) (hts : tN ≠ sN) (h : rsI (((ar : Nat) : Int), f95, f96, f97, f98) sN tN (fI f99) v ar) (hE : v < a → ∃ R, sep sN tN R ∧ flC (((ar : Nat) : Int), f95, f96, f97, f98) (fI f99) R ar) (ha : a = 100000) (ht : tN < 12) (hx : bI x sN = true) (hc : flC (((ar : Nat) : Int), f95, f96, f97, f98) (fI f99) (bI x) ar) (hm : ∀ S, S sN = true → flC (((ar : Nat) : Int), f95, f96, f97, f98) (fI f99) S ar → ∀ n, bI x n = true → S n = true) (hn : ∀ n, bI x n = true → n < 12) : mxC (((ar : Nat) : Int), f95, f96, f97, f98) sN tN x := by
  obtain ⟨R, hR, hRc⟩ := hE (by have := rsI.lim hA h40 hF hts h; omega)
  exact rsI.cut (fl := fI f99) h (FlO.ro hF) hR hRc ht hx hc (fun S h1 h2 n _ h3 => hm S h1 h2 n h3) hn
theorem setMin {f95 f96 f97 f98 f99 : Nat → Int32} {ar sN se s7 y : Nat} (hy : y < 12) (e : nI se ||| ((1 : Int32) <<< (nI y &&& 31)) = nI s7) (hm : ∀ S, S sN = true → flC (((ar : Nat) : Int), f95, f96, f97, f98) (fI f99) S ar → ∀ n, bI (nI se) n = true → S n = true) (hn : ∀ S, S sN = true → flC (((ar : Nat) : Int), f95, f96, f97, f98) (fI f99) S ar → S y = true) : ∀ S, S sN = true → flC (((ar : Nat) : Int), f95, f96, f97, f98) (fI f99) S ar → ∀ n, bI (nI s7) n = true → S n = true := by
  intro S h1 h2 n h9
  rw [bI_set hy e, Bool.or_eq_true] at h9
  rcases h9 with h9 | h9
  · exact hm S h1 h2 n h9
  · rw [of_decide_eq_true h9]
    exact hn S h1 h2
theorem setLow {se s7 y : Nat} (hy : y < 12) (e : nI se ||| ((1 : Int32) <<< (nI y &&& 31)) = nI s7) (h : ∀ n, bI (nI se) n = true → n < 12) : ∀ n, bI (nI s7) n = true → n < 12 := by
  intro n h9
  rw [bI_set hy e, Bool.or_eq_true] at h9
  rcases h9 with h9 | h9
  · exact h n h9
  · have := of_decide_eq_true h9
    omega
theorem tVal.z0 : tVal ((0 : Int32).toInt, (fun _ => 0), (fun _ => 0), (fun _ => 0), (fun _ => 0)) := by
  have h := tVal.z
  rw [ntZ_x (x := (0 : Int32).toInt) (by decide)] at h
  exact h
theorem tRm.z : tRm ntZ := fun b hb => by
  have h9 : ((b : Nat) : Int) < 0 := hb
  omega
theorem tRm.z0 : tRm ((0 : Int32).toInt, (fun _ => 0), (fun _ => 0), (fun _ => 0), (fun _ => 0)) := by
  have h := tRm.z
  rw [ntZ_x (x := (0 : Int32).toInt) (by decide)] at h
  exact h
end
section
/-! the cheapest flow: potentials -/
theorem fin_bd (p : Nat → Int) : ∀ n : Nat, ∃ k : Int, 0 ≤ k ∧ ∀ x, x < n → -k ≤ p x := by
  intro n
  induction n with
  | zero => exact ⟨0, Int.le_refl _, fun x hx => absurd hx (Nat.not_lt_zero x)⟩
  | succ n ih =>
    obtain ⟨k, h0, h⟩ := ih
    by_cases e : -k ≤ p n
    · refine ⟨k, h0, fun x hx => ?_⟩
      by_cases e2 : x = n
      · rw [e2]; exact e
      · exact h x (by omega)
    · refine ⟨-(p n), by omega, fun x hx => ?_⟩
      by_cases e2 : x = n
      · rw [e2]; omega
      · have := h x (by omega)
        omega
/-- potentials for all nodes are kept by a push -/
theorem PoO.all {f95 f96 f97 f98 f99 g99 : Nat → Int32} {ar sN : Nat} {pr bY : Nat → Int32} {rk : Nat → Nat} (hA : ArO f95 f96 f97 f98 ar) (hT : TrK f95 f96 f97 f98 f99 ar sN pr bY rk) (hC : PrC f95 f96 f97 f98 f99 ar pr) (hb : ∀ v, v < 12 → (pr v).toInt ≤ 536870912 ∧ (pr v ≠ 536870912 → (pr v).toInt ≤ 11000))
    (hg : ∀ a, a < ar → g99 a = f99 a ∨ ∃ w, w < 12 ∧ pr w ≠ 536870912 ∧ w ≠ sN ∧ ((bY w).toInt = (a : Int) + 1 ∨ (bY w).toInt = -((a : Int) + 1))) (hp : ∃ p, PoO f95 f96 f97 f98 f99 ar (fun _ => True) p) :
    ∃ p, PoO f95 f96 f97 f98 g99 ar (fun _ => True) p := by
  obtain ⟨p, hp⟩ := hp
  obtain ⟨k, hk0, hk⟩ := fin_bd p 12
  have hN := PoO.after hA hT hC hb hg
  refine ⟨fun v => if pr v = 536870912 then p v + (k + 20000) else (pr v).toInt, ?_⟩
  have hlo : ∀ v, pr v = 536870912 → (if pr v = 536870912 then p v + (k + 20000) else (pr v).toInt) = p v + (k + 20000) := fun v h => if_pos h
  have hhi : ∀ v, pr v ≠ 536870912 → (if pr v = 536870912 then p v + (k + 20000) else (pr v).toInt) = (pr v).toInt := fun v h => if_neg h
  intro a x y ha hx hy ex ey
  obtain ⟨x', y', a1, a2, a3, a4, a5, a6, a7⟩ := hA a ha
  have ho := hp a x y ha hx hy ex ey
  have hn := hN a x y ha hx hy ex ey
  have kx := hk x hx
  have ky := hk y hy
  have hsame : ¬ (pr x ≠ 536870912 ∧ pr y ≠ 536870912) → g99 a = f99 a := fun hne => by
    rcases hg a ha with e | ⟨w, h1, h2, h3, h4⟩
    · exact e
    · exfalso
      obtain ⟨u, a', c, k1, k2, ⟨k3, k4⟩, k5, k6, k7⟩ := hT w h1 h2 h3
      rcases k4 with ⟨j1, j2, j3, j4, j5⟩ | ⟨j1, j2, j3, j4, j5⟩
      · have ea : a' = a := by omega
        subst ea
        have eu : u = x := (nI_eq (by omega) (by omega)).mp (j2.symm.trans ex)
        have ew : w = y := (nI_eq (by omega) (by omega)).mp (j3.symm.trans ey)
        subst eu ew
        exact hne ⟨k5, h2⟩
      · have ea : a' = a := by omega
        subst ea
        have eu : u = y := (nI_eq (by omega) (by omega)).mp (j2.symm.trans ey)
        have ew : w = x := (nI_eq (by omega) (by omega)).mp (j3.symm.trans ex)
        subst eu ew
        exact hne ⟨h2, k5⟩
  refine ⟨fun h1 _ => ⟨trivial, ?_⟩, fun h1 _ => ⟨trivial, ?_⟩⟩
  · by_cases qx : pr x = 536870912
    · have hs := hsame (fun h => h.1 qx)
      by_cases qy : pr y = 536870912
      · show (if pr y = 536870912 then p y + (k + 20000) else (pr y).toInt) ≤ (if pr x = 536870912 then p x + (k + 20000) else (pr x).toInt) + (f98 a).toInt
        rw [hlo x qx, hlo y qy]
        have := (ho.1 (by rw [← hs]; exact h1) trivial).2
        omega
      · show (if pr y = 536870912 then p y + (k + 20000) else (pr y).toInt) ≤ (if pr x = 536870912 then p x + (k + 20000) else (pr x).toInt) + (f98 a).toInt
        rw [hlo x qx, hhi y qy]
        have := (hb y hy).2 qy
        omega
    · have h2 := hn.1 h1 ⟨hx, qx⟩
      show (if pr y = 536870912 then p y + (k + 20000) else (pr y).toInt) ≤ (if pr x = 536870912 then p x + (k + 20000) else (pr x).toInt) + (f98 a).toInt
      rw [hhi x qx, hhi y h2.1.2]
      exact h2.2
  · by_cases qy : pr y = 536870912
    · have hs := hsame (fun h => h.2 qy)
      by_cases qx : pr x = 536870912
      · show (if pr x = 536870912 then p x + (k + 20000) else (pr x).toInt) ≤ (if pr y = 536870912 then p y + (k + 20000) else (pr y).toInt) - (f98 a).toInt
        rw [hlo x qx, hlo y qy]
        have := (ho.2 (by rw [← hs]; exact h1) trivial).2
        omega
      · show (if pr x = 536870912 then p x + (k + 20000) else (pr x).toInt) ≤ (if pr y = 536870912 then p y + (k + 20000) else (pr y).toInt) - (f98 a).toInt
        rw [hhi x qx, hlo y qy]
        have := (hb x hx).2 qx
        omega
    · have h2 := hn.2 h1 ⟨hy, qy⟩
      show (if pr x = 536870912 then p x + (k + 20000) else (pr x).toInt) ≤ (if pr y = 536870912 then p y + (k + 20000) else (pr y).toInt) - (f98 a).toInt
      rw [hhi x h2.1.2, hhi y qy]
      exact h2.2
/-- costs, and differences of a potential, over a flow -/
def csA (d : NtD) (fl : Nat → Int) : Nat → Int
  | 0 => 0
  | m + 1 => csA d fl m + fl m * tCo d m
def psA (d : NtD) (fl p : Nat → Int) : Nat → Int
  | 0 => 0
  | m + 1 => psA d fl p m + fl m * (p (tTo d m) - p (tFr d m))
theorem psA_same {d : NtD} {fl p q : Nat → Int} : ∀ {m : Nat}, (∀ a, a < m → p (tTo d a) = q (tTo d a) ∧ p (tFr d a) = q (tFr d a)) → psA d fl p m = psA d fl q m := by
  intro m
  induction m with
  | zero => intro _; rfl
  | succ m ih =>
    intro h
    have h9 := h m (by omega)
    show psA d fl p m + fl m * (p (tTo d m) - p (tFr d m)) = psA d fl q m + fl m * (q (tTo d m) - q (tFr d m))
    rw [ih (fun a ha => h a (by omega)), h9.1, h9.2]
/-- one node more -/
theorem psA_add {d : NtD} {fl p q : Nat → Int} {n : Nat} {k : Int} : ∀ {m : Nat}, (∀ x, q x = p x + (if x = n then k else 0)) → psA d fl q m = psA d fl p m + k * psA d fl (fun x => if x = n then 1 else 0) m := by
  intro m h
  induction m with
  | zero => show (0 : Int) = 0 + k * 0; rw [Int.mul_zero]; rfl
  | succ m ih =>
    show psA d fl q m + fl m * (q (tTo d m) - q (tFr d m)) = psA d fl p m + fl m * (p (tTo d m) - p (tFr d m)) + k * (psA d fl (fun x => if x = n then 1 else 0) m + fl m * ((if tTo d m = n then 1 else 0) - (if tFr d m = n then 1 else 0)))
    rw [ih, h, h, Int.mul_add]
    have e : fl m * (p (tTo d m) + (if tTo d m = n then k else 0) - (p (tFr d m) + (if tFr d m = n then k else 0))) = fl m * (p (tTo d m) - p (tFr d m)) + k * (fl m * ((if tTo d m = n then 1 else 0) - (if tFr d m = n then 1 else 0))) := by
      have e1 : (p (tTo d m) + (if tTo d m = n then k else 0) - (p (tFr d m) + (if tFr d m = n then k else 0))) = (p (tTo d m) - p (tFr d m)) + k * ((if tTo d m = n then 1 else 0) - (if tFr d m = n then 1 else 0)) := by
        by_cases q1 : tTo d m = n
        · by_cases q2 : tFr d m = n
          · rw [if_pos q1, if_pos q2, if_pos q1, if_pos q2]; rw [show ((1 : Int) - 1) = 0 from rfl, Int.mul_zero]; omega
          · rw [if_pos q1, if_neg q2, if_pos q1, if_neg q2]; rw [show ((1 : Int) - 0) = 1 from rfl, Int.mul_one]; omega
        · by_cases q2 : tFr d m = n
          · rw [if_neg q1, if_pos q2, if_neg q1, if_pos q2]; rw [show ((0 : Int) - 1) = -1 from rfl, Int.mul_neg, Int.mul_one]; omega
          · rw [if_neg q1, if_neg q2, if_neg q1, if_neg q2]; rw [show ((0 : Int) - 0) = 0 from rfl, Int.mul_zero]; omega
      rw [e1, Int.mul_add, Int.mul_left_comm]
    rw [e]
    omega
/-- a single node: out of what is told of every set -/
theorem psA_one {d : NtD} {fl : Nat → Int} {n : Nat} : ∀ {m : Nat}, psA d fl (fun x => if x = n then 1 else 0) m = rsA d fl (fun x => decide (x = n)) m - cpA d (fun x => decide (x = n)) m := by
  intro m
  induction m with
  | zero => rfl
  | succ m ih =>
    show psA d fl (fun x => if x = n then 1 else 0) m + fl m * ((if tTo d m = n then 1 else 0) - (if tFr d m = n then 1 else 0)) = (rsA d fl (fun x => decide (x = n)) m + rsB (decide (tFr d m = n)) (decide (tTo d m = n)) (tRo d m) (fl m)) - (cpA d (fun x => decide (x = n)) m + rsB (decide (tFr d m = n)) (decide (tTo d m = n)) (tRo d m) 0)
    rw [ih]
    have e : fl m * ((if tTo d m = n then 1 else 0) - (if tFr d m = n then 1 else 0)) = rsB (decide (tFr d m = n)) (decide (tTo d m = n)) (tRo d m) (fl m) - rsB (decide (tFr d m = n)) (decide (tTo d m = n)) (tRo d m) 0 := by
      by_cases q1 : tTo d m = n
      · by_cases q2 : tFr d m = n
        · rw [if_pos q1, if_pos q2, decide_eq_true q1, decide_eq_true q2]
          show fl m * (1 - 1) = 0 - 0
          rw [show ((1 : Int) - 1) = 0 from rfl, Int.mul_zero]; rfl
        · rw [if_pos q1, if_neg q2, decide_eq_true q1, decide_eq_false q2]
          show fl m * (1 - 0) = fl m - 0
          rw [show ((1 : Int) - 0) = 1 from rfl, Int.mul_one]; omega
      · by_cases q2 : tFr d m = n
        · rw [if_neg q1, if_pos q2, decide_eq_false q1, decide_eq_true q2]
          show fl m * (0 - 1) = (tRo d m - fl m) - (tRo d m - 0)
          rw [show ((0 : Int) - 1) = -1 from rfl, Int.mul_neg, Int.mul_one]; omega
        · rw [if_neg q1, if_neg q2, decide_eq_false q1, decide_eq_false q2]
          show fl m * (0 - 0) = 0 - 0
          rw [show ((0 : Int) - 0) = 0 from rfl, Int.mul_zero] <;> rfl
    rw [e]
    omega
/-- for every potential -/
theorem rsI.pot {d : NtD} {s t m : Nat} {fl : Nat → Int} {v : Int} (h : rsI d s t fl v m) (hs : s < 12) (ht : t < 12) (hv : ∀ a, a < m → tFr d a < 12 ∧ tTo d a < 12) (p : Nat → Int) : psA d fl p m = v * (p t - p s) := by
  have key : ∀ k : Nat, psA d fl (fun x => if x < k then p x else 0) m = v * ((if t < k then p t else 0) - (if s < k then p s else 0)) := by
    intro k
    induction k with
    | zero =>
      rw [if_neg (Nat.not_lt_zero t), if_neg (Nat.not_lt_zero s)]
      have h0 : ∀ m, psA d fl (fun x => if x < 0 then p x else 0) m = 0 := by
        intro m
        induction m with
        | zero => rfl
        | succ m ih =>
          show psA d fl (fun x => if x < 0 then p x else 0) m + fl m * ((if tTo d m < 0 then p (tTo d m) else 0) - (if tFr d m < 0 then p (tFr d m) else 0)) = 0
          rw [ih, if_neg (Nat.not_lt_zero _), if_neg (Nat.not_lt_zero _), show ((0 : Int) - 0) = 0 from rfl, Int.mul_zero]
          rfl
      rw [h0, show ((0 : Int) - 0) = 0 from rfl, Int.mul_zero]
    | succ k ih =>
      rw [psA_add (p := fun x => if x < k then p x else 0) (n := k) (k := p k) (fun x => by
        show (if x < k + 1 then p x else 0) = (if x < k then p x else 0) + (if x = k then p k else 0)
        by_cases q1 : x = k
        · rw [if_pos (by omega), if_neg (by omega), if_pos q1, q1]; omega
        · by_cases q2 : x < k
          · rw [if_pos (by omega), if_pos q2, if_neg q1]; omega
          · rw [if_neg (by omega), if_neg q2, if_neg q1]; rfl), ih, psA_one, h (fun x => decide (x = k))]
      have e : ∀ n, (if n < k + 1 then p n else 0) = (if n < k then p n else 0) + (if n = k then p k else 0) := fun n => by
        by_cases q1 : n = k
        · rw [if_pos (by omega), if_neg (by omega), if_pos q1, q1]; omega
        · by_cases q2 : n < k
          · rw [if_pos (by omega), if_pos q2, if_neg q1]; omega
          · rw [if_neg (by omega), if_neg q2, if_neg q1]; rfl
      rw [e t, e s]
      have es : ∀ n, sW (fun x => decide (x = k)) n v = if n = k then v else 0 := fun n => by
        by_cases q1 : n = k
        · rw [if_pos q1]; exact sW_in (decide_eq_true q1) v
        · rw [if_neg q1]; exact sW_out (decide_eq_false q1) v
      rw [es, es]
      have e2 : ∀ A B : Int, cpA d (fun x => decide (x = k)) m - (A - B) - cpA d (fun x => decide (x = k)) m = B - A := fun A B => by omega
      rw [e2]
      have e3 : ∀ n, p k * (if n = k then v else 0) = v * (if n = k then p k else 0) := fun n => by
        by_cases q1 : n = k
        · rw [if_pos q1, if_pos q1, Int.mul_comm]
        · rw [if_neg q1, if_neg q1, Int.mul_zero, Int.mul_zero]
      rw [Int.mul_sub (p k), e3, e3, ← Int.mul_sub, ← Int.mul_add]
      congr 1
      omega
  have h12 := key 12
  rw [if_pos ht, if_pos hs] at h12
  rw [← h12]
  exact psA_same (fun a ha => by
    have h9 := hv a ha
    show p (tTo d a) = (if tTo d a < 12 then p (tTo d a) else 0) ∧ p (tFr d a) = (if tFr d a < 12 then p (tFr d a) else 0)
    rw [if_pos h9.1, if_pos h9.2]
    exact ⟨rfl, rfl⟩)
def PoF (d : NtD) (fl p : Nat → Int) (m : Nat) : Prop := ∀ a, a < m → (fl a < tRo d a → p (tTo d a) ≤ p (tFr d a) + tCo d a) ∧ (0 < fl a → p (tFr d a) ≤ p (tTo d a) - tCo d a)
theorem PoF.le {d : NtD} {x y p : Nat → Int} : ∀ {m : Nat}, PoF d x p m → (∀ a, a < m → 0 ≤ x a ∧ x a ≤ tRo d a) → (∀ a, a < m → 0 ≤ y a ∧ y a ≤ tRo d a) → csA d x m - psA d x p m ≤ csA d y m - psA d y p m := by
  intro m
  induction m with
  | zero => intro _ _ _; exact Int.le_refl _
  | succ m ih =>
    intro h hx hy
    have h1 := ih (fun a ha => h a (by omega)) (fun a ha => hx a (by omega)) (fun a ha => hy a (by omega))
    have h2 := h m (by omega)
    have bx := hx m (by omega)
    have bY := hy m (by omega)
    show csA d x m + x m * tCo d m - (psA d x p m + x m * (p (tTo d m) - p (tFr d m))) ≤ csA d y m + y m * tCo d m - (psA d y p m + y m * (p (tTo d m) - p (tFr d m)))
    have key : x m * tCo d m - x m * (p (tTo d m) - p (tFr d m)) ≤ y m * tCo d m - y m * (p (tTo d m) - p (tFr d m)) := by
      rw [← Int.mul_sub, ← Int.mul_sub]
      generalize hr : tCo d m - (p (tTo d m) - p (tFr d m)) = r
      rcases Int.lt_trichotomy r 0 with q | q | q
      · have e : x m = tRo d m := Classical.byContradiction (fun e9 => by have := h2.1 (by omega); omega)
        rw [e]
        have h3 : y m ≤ tRo d m := bY.2
        exact Int.mul_le_mul_of_nonpos_right h3 (by omega)
      · rw [q, Int.mul_zero, Int.mul_zero]
        exact Int.le_refl _
      · have e : x m = 0 := Classical.byContradiction (fun e9 => by have := h2.2 (by omega); omega)
        rw [e, Int.zero_mul]
        exact Int.mul_nonneg bY.1 (by omega)
    omega
/-- the answer of cheapest -/
def mnC (d : NtD) (s t : Nat) (am r : Int) : Prop := (am < 0 ∧ r = -1) ∨ (0 ≤ am ∧ r = -1 ∧ ∃ q, mxF d s t q ∧ q < am) ∨ (0 ≤ am ∧ ∃ fl p, (∀ a, a < d.1.toNat → 0 ≤ fl a ∧ fl a ≤ tRo d a) ∧ rsI d s t fl am d.1.toNat ∧ PoF d fl p d.1.toNat ∧ r = csA d fl d.1.toNat)
theorem mnC.eq {d : NtD} {s t : Nat} {am r q : Int} (hs : s < 12) (ht : t < 12) (hd : tVal d) (h : mnC d s t am r) (h2 : mnC d s t am q) : r = q := by
  have hv : ∀ a, a < d.1.toNat → tFr d a < 12 ∧ tTo d a < 12 := fun a ha => by
    have h9 := hd a (by omega)
    exact ⟨h9.1, h9.2.1⟩
  have no : ∀ {fl : Nat → Int}, (∀ a, a < d.1.toNat → 0 ≤ fl a ∧ fl a ≤ tRo d a) → rsI d s t fl am d.1.toNat → (∃ q, mxF d s t q ∧ q < am) → False := fun hf hI ⟨q, ⟨⟨R, hR, e⟩, _⟩, hq⟩ => by
    have := hI.le hf hR
    omega
  rcases h with ⟨a1, a2⟩ | ⟨a1, a2, a3⟩ | ⟨a1, fl, p, a2, a3, a4, a5⟩
  · rcases h2 with ⟨b1, b2⟩ | ⟨b1, b2, b3⟩ | ⟨b1, gl, p2, b2, b3, b4, b5⟩
    · omega
    · omega
    · omega
  · rcases h2 with ⟨b1, b2⟩ | ⟨b1, b2, b3⟩ | ⟨b1, gl, p2, b2, b3, b4, b5⟩
    · omega
    · omega
    · exact (no b2 b3 a3).elim
  · rcases h2 with ⟨b1, b2⟩ | ⟨b1, b2, b3⟩ | ⟨b1, gl, p2, b2, b3, b4, b5⟩
    · omega
    · exact (no a2 a3 b3).elim
    · have h3 := PoF.le a4 a2 b2
      have h4 := PoF.le b4 b2 a2
      rw [a3.pot hs ht hv p, b3.pot hs ht hv p] at h3
      rw [a3.pot hs ht hv p2, b3.pot hs ht hv p2] at h4
      omega
theorem PoO.f {f95 f96 f97 f98 f99 : Nat → Int32} {ar : Nat} {p : Nat → Int} (hA : ArO f95 f96 f97 f98 ar) (h : PoO f95 f96 f97 f98 f99 ar (fun _ => True) p) : PoF (((ar : Nat) : Int), f95, f96, f97, f98) (fI f99) p ar := by
  intro a ha
  obtain ⟨x, y, hx, hy, hxy, ex, ey, hr, hc⟩ := hA a ha
  have h9 := h a x y ha hx hy ex ey
  rw [tFr_nI (d := (((ar : Nat) : Int), f95, f96, f97, f98)) hx ex, tTo_nI (d := (((ar : Nat) : Int), f95, f96, f97, f98)) hy ey]
  exact ⟨fun h1 => (h9.1 h1 trivial).2, fun h1 => (h9.2 h1 trivial).2⟩
theorem mul_i {x y : Int32} {k : Int} (h : x.toInt * y.toInt = k) (h0 : -2147483648 ≤ k) (h1 : k < 2147483648) : (x * y).toInt = k := by
  have e : x * y = Int32.ofInt (x.toInt * y.toInt) := by rw [Int32.ofInt_mul, Int32.ofInt_toInt, Int32.ofInt_toInt]
  rw [e, h]
  exact Int32.toInt_ofInt_of_le h0 h1
theorem csA.step {d : NtD} {fl : Nat → Int} {m : Nat} {n g c : Int32} (h : n.toInt = csA d fl m ∧ 0 ≤ n.toInt ∧ n.toInt ≤ 1000000 * (m : Int)) (hm : m < 40) (hg : g.toInt = fl m) (hc : c.toInt = tCo d m) (bg : 0 ≤ g.toInt ∧ g.toInt ≤ 1000) (bc : 0 ≤ c.toInt ∧ c.toInt ≤ 1000) : (n + g * c).toInt = csA d fl (m + 1) ∧ 0 ≤ (n + g * c).toInt ∧ (n + g * c).toInt ≤ 1000000 * ((m + 1 : Nat) : Int) := by
  have h1 : 0 ≤ g.toInt * c.toInt := Int.mul_nonneg bg.1 bc.1
  have h2 : g.toInt * c.toInt ≤ 1000 * 1000 := Int.mul_le_mul bg.2 bc.2 bc.1 (by decide)
  have e := mul_i (x := g) (y := c) (k := g.toInt * c.toInt) rfl (by omega) (by omega)
  have e2 : (n + g * c).toInt = n.toInt + g.toInt * c.toInt := by
    rw [addB (by omega) (by rw [e]; omega), e]
  have e3 : csA d fl (m + 1) = csA d fl m + fl m * tCo d m := rfl
  rw [e2, e3, ← hg, ← hc]
  omega
theorem mnC.none {f95 f96 f97 f98 f99 : Nat → Int32} {ar sN tN : Nat} {v am r : Int} (hF : FlO f97 f99 ar) (h : rsI (((ar : Nat) : Int), f95, f96, f97, f98) sN tN (fI f99) v ar) (hE : v < am → ∃ R, sep sN tN R ∧ flC (((ar : Nat) : Int), f95, f96, f97, f98) (fI f99) R ar) (ha : 0 ≤ am) (hl : v < am) (hr : r = -1) : mnC (((ar : Nat) : Int), f95, f96, f97, f98) sN tN am r := by
  obtain ⟨R, hR, hc⟩ := hE hl
  exact Or.inr (Or.inl ⟨ha, hr, v, rsI.max (fl := fI f99) h (FlO.ro hF) hR hc, hl⟩)
theorem mnC.some {f95 f96 f97 f98 f99 : Nat → Int32} {ar sN tN : Nat} {v am r : Int} (hA : ArO f95 f96 f97 f98 ar) (hF : FlO f97 f99 ar) (h : rsI (((ar : Nat) : Int), f95, f96, f97, f98) sN tN (fI f99) v ar) (hp : ∃ p, PoO f95 f96 f97 f98 f99 ar (fun _ => True) p) (ha : 0 ≤ am) (hv : v = am) (hr : r = csA (((ar : Nat) : Int), f95, f96, f97, f98) (fI f99) ar) : mnC (((ar : Nat) : Int), f95, f96, f97, f98) sN tN am r := by
  obtain ⟨p, hp⟩ := hp
  rw [hv] at h
  exact Or.inr (Or.inr ⟨ha, fI f99, p, FlO.ro hF, h, PoO.f hA hp, hr⟩)
end
section
theorem dX12_push_0 : decode cX12_push 0 = .ok (.iload_n 3, 1) := dk_29 (by decide +kernel)
theorem dX12_push_1 : decode cX12_push 1 = .ok (.istore 4, 2) := dk_54 (by decide +kernel)
theorem dX12_push_3 : decode cX12_push 3 = .ok (.iload_n 2, 1) := dk_28 (by decide +kernel)
theorem dX12_push_4 : decode cX12_push 4 = .ok (.istore 5, 2) := dk_54 (by decide +kernel)
theorem dX12_push_6 : decode cX12_push 6 = .ok (.iload 5, 2) := dk_21 (by decide +kernel)
theorem dX12_push_8 : decode cX12_push 8 = .ok (.iload_n 1, 1) := dk_27 (by decide +kernel)
theorem dX12_push_9 : decode cX12_push 9 = .ok (.if_icmp .eq 122, 3) := dk_159 (by decide +kernel)
theorem dX12_push_12 : decode cX12_push 12 = .ok (.aload_n 0, 1) := dk_42 (by decide +kernel)
theorem dX12_push_13 : decode cX12_push 13 = .ok (.getfield 330, 3) := dk_180 (by decide +kernel)
theorem dX12_push_16 : decode cX12_push 16 = .ok (.iload 5, 2) := dk_21 (by decide +kernel)
theorem dX12_push_18 : decode cX12_push 18 = .ok (.iaload, 1) := dk_46 (by decide +kernel)
theorem dX12_push_19 : decode cX12_push 19 = .ok (.ifCond .le 15, 3) := dk_158 (by decide +kernel)
theorem dX12_push_22 : decode cX12_push 22 = .ok (.aload_n 0, 1) := dk_42 (by decide +kernel)
theorem dX12_push_23 : decode cX12_push 23 = .ok (.getfield 330, 3) := dk_180 (by decide +kernel)
theorem dX12_push_26 : decode cX12_push 26 = .ok (.iload 5, 2) := dk_21 (by decide +kernel)
theorem dX12_push_28 : decode cX12_push 28 = .ok (.iaload, 1) := dk_46 (by decide +kernel)
theorem dX12_push_29 : decode cX12_push 29 = .ok (.iconst 1, 1) := dk_4 (by decide +kernel)
theorem dX12_push_30 : decode cX12_push 30 = .ok (.isub, 1) := dk_100 (by decide +kernel)
theorem dX12_push_31 : decode cX12_push 31 = .ok (.goto 13, 3) := dk_167 (by decide +kernel)
theorem dX12_push_34 : decode cX12_push 34 = .ok (.aload_n 0, 1) := dk_42 (by decide +kernel)
theorem dX12_push_35 : decode cX12_push 35 = .ok (.getfield 330, 3) := dk_180 (by decide +kernel)
theorem dX12_push_38 : decode cX12_push 38 = .ok (.iload 5, 2) := dk_21 (by decide +kernel)
theorem dX12_push_40 : decode cX12_push 40 = .ok (.iaload, 1) := dk_46 (by decide +kernel)
theorem dX12_push_41 : decode cX12_push 41 = .ok (.ineg, 1) := dk_116 (by decide +kernel)
theorem dX12_push_42 : decode cX12_push 42 = .ok (.iconst 1, 1) := dk_4 (by decide +kernel)
theorem dX12_push_43 : decode cX12_push 43 = .ok (.isub, 1) := dk_100 (by decide +kernel)
theorem dX12_push_44 : decode cX12_push 44 = .ok (.istore 6, 2) := dk_54 (by decide +kernel)
theorem dX12_push_46 : decode cX12_push 46 = .ok (.aload_n 0, 1) := dk_42 (by decide +kernel)
theorem dX12_push_47 : decode cX12_push 47 = .ok (.getfield 330, 3) := dk_180 (by decide +kernel)
theorem dX12_push_50 : decode cX12_push 50 = .ok (.iload 5, 2) := dk_21 (by decide +kernel)
theorem dX12_push_52 : decode cX12_push 52 = .ok (.iaload, 1) := dk_46 (by decide +kernel)
theorem dX12_push_53 : decode cX12_push 53 = .ok (.ifCond .le 21, 3) := dk_158 (by decide +kernel)
theorem dX12_push_56 : decode cX12_push 56 = .ok (.aload_n 0, 1) := dk_42 (by decide +kernel)
theorem dX12_push_57 : decode cX12_push 57 = .ok (.getfield 318, 3) := dk_180 (by decide +kernel)
theorem dX12_push_60 : decode cX12_push 60 = .ok (.iload 6, 2) := dk_21 (by decide +kernel)
theorem dX12_push_62 : decode cX12_push 62 = .ok (.iaload, 1) := dk_46 (by decide +kernel)
theorem dX12_push_63 : decode cX12_push 63 = .ok (.aload_n 0, 1) := dk_42 (by decide +kernel)
theorem dX12_push_64 : decode cX12_push 64 = .ok (.getfield 324, 3) := dk_180 (by decide +kernel)
theorem dX12_push_67 : decode cX12_push 67 = .ok (.iload 6, 2) := dk_21 (by decide +kernel)
theorem dX12_push_69 : decode cX12_push 69 = .ok (.iaload, 1) := dk_46 (by decide +kernel)
theorem dX12_push_70 : decode cX12_push 70 = .ok (.isub, 1) := dk_100 (by decide +kernel)
theorem dX12_push_71 : decode cX12_push 71 = .ok (.goto 10, 3) := dk_167 (by decide +kernel)
theorem dX12_push_74 : decode cX12_push 74 = .ok (.aload_n 0, 1) := dk_42 (by decide +kernel)
theorem dX12_push_75 : decode cX12_push 75 = .ok (.getfield 324, 3) := dk_180 (by decide +kernel)
theorem dX12_push_78 : decode cX12_push 78 = .ok (.iload 6, 2) := dk_21 (by decide +kernel)
theorem dX12_push_80 : decode cX12_push 80 = .ok (.iaload, 1) := dk_46 (by decide +kernel)
theorem dX12_push_81 : decode cX12_push 81 = .ok (.istore 7, 2) := dk_54 (by decide +kernel)
theorem dX12_push_83 : decode cX12_push 83 = .ok (.iload 7, 2) := dk_21 (by decide +kernel)
theorem dX12_push_85 : decode cX12_push 85 = .ok (.iload 4, 2) := dk_21 (by decide +kernel)
theorem dX12_push_87 : decode cX12_push 87 = .ok (.if_icmp .ge 8, 3) := dk_162 (by decide +kernel)
theorem dX12_push_90 : decode cX12_push 90 = .ok (.iload 7, 2) := dk_21 (by decide +kernel)
theorem dX12_push_92 : decode cX12_push 92 = .ok (.goto 5, 3) := dk_167 (by decide +kernel)
theorem dX12_push_95 : decode cX12_push 95 = .ok (.iload 4, 2) := dk_21 (by decide +kernel)
theorem dX12_push_97 : decode cX12_push 97 = .ok (.istore 4, 2) := dk_54 (by decide +kernel)
theorem dX12_push_99 : decode cX12_push 99 = .ok (.aload_n 0, 1) := dk_42 (by decide +kernel)
theorem dX12_push_100 : decode cX12_push 100 = .ok (.getfield 330, 3) := dk_180 (by decide +kernel)
theorem dX12_push_103 : decode cX12_push 103 = .ok (.iload 5, 2) := dk_21 (by decide +kernel)
theorem dX12_push_105 : decode cX12_push 105 = .ok (.iaload, 1) := dk_46 (by decide +kernel)
theorem dX12_push_106 : decode cX12_push 106 = .ok (.ifCond .le 13, 3) := dk_158 (by decide +kernel)
theorem dX12_push_109 : decode cX12_push 109 = .ok (.aload_n 0, 1) := dk_42 (by decide +kernel)
theorem dX12_push_110 : decode cX12_push 110 = .ok (.getfield 312, 3) := dk_180 (by decide +kernel)
theorem dX12_push_113 : decode cX12_push 113 = .ok (.iload 6, 2) := dk_21 (by decide +kernel)
theorem dX12_push_115 : decode cX12_push 115 = .ok (.iaload, 1) := dk_46 (by decide +kernel)
theorem dX12_push_116 : decode cX12_push 116 = .ok (.goto 10, 3) := dk_167 (by decide +kernel)
theorem dX12_push_119 : decode cX12_push 119 = .ok (.aload_n 0, 1) := dk_42 (by decide +kernel)
theorem dX12_push_120 : decode cX12_push 120 = .ok (.getfield 315, 3) := dk_180 (by decide +kernel)
theorem dX12_push_123 : decode cX12_push 123 = .ok (.iload 6, 2) := dk_21 (by decide +kernel)
theorem dX12_push_125 : decode cX12_push 125 = .ok (.iaload, 1) := dk_46 (by decide +kernel)
theorem dX12_push_126 : decode cX12_push 126 = .ok (.istore 5, 2) := dk_54 (by decide +kernel)
theorem dX12_push_128 : decode cX12_push 128 = .ok (.goto (-122), 3) := dk_167 (by decide +kernel)
theorem dX12_push_131 : decode cX12_push 131 = .ok (.iload_n 2, 1) := dk_28 (by decide +kernel)
theorem dX12_push_132 : decode cX12_push 132 = .ok (.istore 5, 2) := dk_54 (by decide +kernel)
theorem dX12_push_134 : decode cX12_push 134 = .ok (.iload 5, 2) := dk_21 (by decide +kernel)
theorem dX12_push_136 : decode cX12_push 136 = .ok (.iload_n 1, 1) := dk_27 (by decide +kernel)
theorem dX12_push_137 : decode cX12_push 137 = .ok (.if_icmp .eq 99, 3) := dk_159 (by decide +kernel)
theorem dX12_push_140 : decode cX12_push 140 = .ok (.aload_n 0, 1) := dk_42 (by decide +kernel)
theorem dX12_push_141 : decode cX12_push 141 = .ok (.getfield 330, 3) := dk_180 (by decide +kernel)
theorem dX12_push_144 : decode cX12_push 144 = .ok (.iload 5, 2) := dk_21 (by decide +kernel)
theorem dX12_push_146 : decode cX12_push 146 = .ok (.iaload, 1) := dk_46 (by decide +kernel)
theorem dX12_push_147 : decode cX12_push 147 = .ok (.ifCond .le 7, 3) := dk_158 (by decide +kernel)
theorem dX12_push_150 : decode cX12_push 150 = .ok (.iconst 1, 1) := dk_4 (by decide +kernel)
theorem dX12_push_151 : decode cX12_push 151 = .ok (.goto 4, 3) := dk_167 (by decide +kernel)
theorem dX12_push_154 : decode cX12_push 154 = .ok (.iconst 0, 1) := dk_3 (by decide +kernel)
theorem dX12_push_155 : decode cX12_push 155 = .ok (.istore 6, 2) := dk_54 (by decide +kernel)
theorem dX12_push_157 : decode cX12_push 157 = .ok (.iload 6, 2) := dk_21 (by decide +kernel)
theorem dX12_push_159 : decode cX12_push 159 = .ok (.ifCond .eq 15, 3) := dk_153 (by decide +kernel)
theorem dX12_push_162 : decode cX12_push 162 = .ok (.aload_n 0, 1) := dk_42 (by decide +kernel)
theorem dX12_push_163 : decode cX12_push 163 = .ok (.getfield 330, 3) := dk_180 (by decide +kernel)
theorem dX12_push_166 : decode cX12_push 166 = .ok (.iload 5, 2) := dk_21 (by decide +kernel)
theorem dX12_push_168 : decode cX12_push 168 = .ok (.iaload, 1) := dk_46 (by decide +kernel)
theorem dX12_push_169 : decode cX12_push 169 = .ok (.iconst 1, 1) := dk_4 (by decide +kernel)
theorem dX12_push_170 : decode cX12_push 170 = .ok (.isub, 1) := dk_100 (by decide +kernel)
theorem dX12_push_171 : decode cX12_push 171 = .ok (.goto 13, 3) := dk_167 (by decide +kernel)
theorem dX12_push_174 : decode cX12_push 174 = .ok (.aload_n 0, 1) := dk_42 (by decide +kernel)
theorem dX12_push_175 : decode cX12_push 175 = .ok (.getfield 330, 3) := dk_180 (by decide +kernel)
theorem dX12_push_178 : decode cX12_push 178 = .ok (.iload 5, 2) := dk_21 (by decide +kernel)
theorem dX12_push_180 : decode cX12_push 180 = .ok (.iaload, 1) := dk_46 (by decide +kernel)
theorem dX12_push_181 : decode cX12_push 181 = .ok (.ineg, 1) := dk_116 (by decide +kernel)
theorem dX12_push_182 : decode cX12_push 182 = .ok (.iconst 1, 1) := dk_4 (by decide +kernel)
theorem dX12_push_183 : decode cX12_push 183 = .ok (.isub, 1) := dk_100 (by decide +kernel)
theorem dX12_push_184 : decode cX12_push 184 = .ok (.istore 7, 2) := dk_54 (by decide +kernel)
theorem dX12_push_186 : decode cX12_push 186 = .ok (.aload_n 0, 1) := dk_42 (by decide +kernel)
theorem dX12_push_187 : decode cX12_push 187 = .ok (.getfield 324, 3) := dk_180 (by decide +kernel)
theorem dX12_push_190 : decode cX12_push 190 = .ok (.iload 7, 2) := dk_21 (by decide +kernel)
theorem dX12_push_192 : decode cX12_push 192 = .ok (.dup2, 1) := dk_92 (by decide +kernel)
theorem dX12_push_193 : decode cX12_push 193 = .ok (.iaload, 1) := dk_46 (by decide +kernel)
theorem dX12_push_194 : decode cX12_push 194 = .ok (.iload 6, 2) := dk_21 (by decide +kernel)
theorem dX12_push_196 : decode cX12_push 196 = .ok (.ifCond .eq 8, 3) := dk_153 (by decide +kernel)
theorem dX12_push_199 : decode cX12_push 199 = .ok (.iload 4, 2) := dk_21 (by decide +kernel)
theorem dX12_push_201 : decode cX12_push 201 = .ok (.goto 6, 3) := dk_167 (by decide +kernel)
theorem dX12_push_204 : decode cX12_push 204 = .ok (.iload 4, 2) := dk_21 (by decide +kernel)
theorem dX12_push_206 : decode cX12_push 206 = .ok (.ineg, 1) := dk_116 (by decide +kernel)
theorem dX12_push_207 : decode cX12_push 207 = .ok (.iadd, 1) := dk_96 (by decide +kernel)
theorem dX12_push_208 : decode cX12_push 208 = .ok (.iastore, 1) := dk_79 (by decide +kernel)
theorem dX12_push_209 : decode cX12_push 209 = .ok (.iload 6, 2) := dk_21 (by decide +kernel)
theorem dX12_push_211 : decode cX12_push 211 = .ok (.ifCond .eq 13, 3) := dk_153 (by decide +kernel)
theorem dX12_push_214 : decode cX12_push 214 = .ok (.aload_n 0, 1) := dk_42 (by decide +kernel)
theorem dX12_push_215 : decode cX12_push 215 = .ok (.getfield 312, 3) := dk_180 (by decide +kernel)
theorem dX12_push_218 : decode cX12_push 218 = .ok (.iload 7, 2) := dk_21 (by decide +kernel)
theorem dX12_push_220 : decode cX12_push 220 = .ok (.iaload, 1) := dk_46 (by decide +kernel)
theorem dX12_push_221 : decode cX12_push 221 = .ok (.goto 10, 3) := dk_167 (by decide +kernel)
theorem dX12_push_224 : decode cX12_push 224 = .ok (.aload_n 0, 1) := dk_42 (by decide +kernel)
theorem dX12_push_225 : decode cX12_push 225 = .ok (.getfield 315, 3) := dk_180 (by decide +kernel)
theorem dX12_push_228 : decode cX12_push 228 = .ok (.iload 7, 2) := dk_21 (by decide +kernel)
theorem dX12_push_230 : decode cX12_push 230 = .ok (.iaload, 1) := dk_46 (by decide +kernel)
theorem dX12_push_231 : decode cX12_push 231 = .ok (.istore 5, 2) := dk_54 (by decide +kernel)
theorem dX12_push_233 : decode cX12_push 233 = .ok (.goto (-99), 3) := dk_167 (by decide +kernel)
theorem dX12_push_236 : decode cX12_push 236 = .ok (.iload 4, 2) := dk_21 (by decide +kernel)
theorem dX12_push_238 : decode cX12_push 238 = .ok (.ireturn, 1) := dk_172 (by decide +kernel)
def wsRX12_push : List Cond := .code yX12_push cX12_push 8 (some .int) :: ([.fieldLink RX12 330 "OptimaWorksModel" "by" "[I", .fieldLink RX12 324 "OptimaWorksModel" "flow" "[I", .fieldLink RX12 315 "OptimaWorksModel" "arcTo" "[I", .fieldLink RX12 312 "OptimaWorksModel" "arcFrom" "[I", .fieldLink RX12 318 "OptimaWorksModel" "arcRoom" "[I"] ++ wsX120)
theorem iwsRX12_push_in12 : ∀ w ∈ wsX120, w ∈ wsRX12_push := fun _ h => List.mem_cons_of_mem _ (List.mem_append_right _ h)
theorem gdwsRX12_push : wsRX12_push.all goodWord = true := gdC rfl (gdA (by decide +kernel : ([.fieldLink RX12 330 "OptimaWorksModel" "by" "[I", .fieldLink RX12 324 "OptimaWorksModel" "flow" "[I", .fieldLink RX12 315 "OptimaWorksModel" "arcTo" "[I", .fieldLink RX12 312 "OptimaWorksModel" "arcFrom" "[I", .fieldLink RX12 318 "OptimaWorksModel" "arcRoom" "[I"] : List Cond).all goodWord = true) gdwsX120)
theorem hm_r_X12_push_0 : (.fieldLink RX12 330 "OptimaWorksModel" "by" "[I" : Cond) ∈ wsRX12_push := by decide +kernel
theorem hm_r_X12_push_1 : (.fieldLink RX12 324 "OptimaWorksModel" "flow" "[I" : Cond) ∈ wsRX12_push := by decide +kernel
theorem hm_r_X12_push_2 : (.fieldLink RX12 315 "OptimaWorksModel" "arcTo" "[I" : Cond) ∈ wsRX12_push := by decide +kernel
theorem hm_r_X12_push_3 : (.fieldLink RX12 312 "OptimaWorksModel" "arcFrom" "[I" : Cond) ∈ wsRX12_push := by decide +kernel
set_option maxHeartbeats 4000000 in
set_option maxRecDepth 100000 in
/-- push(s, t, most) -/
theorem r_X12_push (l : Launch) (dC : Nat → ClassId) (dI : Nat → Nat → Nat) (a : Nat → Nat) (k : Nat → ClassId) (h0 : Nat) (vi : Nat → Int32) (vj : Nat → Int64) (vF : Nat → Nat → Int32) (vG : Nat → Nat → Int64) (ar : Nat) (sN : Nat) (tN : Nat) (mI : Int32) (rk : Nat → Nat) (har : vi 150 = nI ar) (har40 : ar ≤ 40) (hAr : ArO (vF 95) (vF 96) (vF 97) (vF 98) ar) (hs12 : sN < 12) (ht12 : tN < 12) (hFl : FlO (vF 97) (vF 99) ar) (hT : TrK (vF 95) (vF 96) (vF 97) (vF 98) (vF 99) ar sN (vF 100) (vF 101) rk) (htl : vF 100 tN ≠ 536870912) (htsn : tN ≠ sN) (hm1 : 1 ≤ (mI).toInt) (sz : Nat) : Met l yX12_push wsRX12_push ({ frames := 0, cells := 0, slots := 0, locals := 0 }) (va_Pc [.ref h0, .int (nI sN), .int (nI tN), .int mI] (fun U => U.heap.size = sz ∧ va_P (dC, dI) vwCl (WR a k h0 vi vj vF vG) U.heap ∧ va_K (dC, dI) vwCl (tX12 k) U ∧ va_D (fun _ => True) (WR a k h0 vi vj vF vG))) (va_Qi (fun (r : Int32) (u : Nat → Int32) => (1 ≤ (r).toInt ∧ (r).toInt ≤ (mI).toInt) ∧ (FlO (vF 97) u ar) ∧ (∀ a, a < ar → u a = vF 99 a ∨ ∃ w, w < 12 ∧ vF 100 w ≠ 536870912 ∧ w ≠ sN ∧ ((vF 101 w).toInt = (a : Int) + 1 ∨ (vF 101 w).toInt = -((a : Int) + 1))) ∧ (∀ S, rsA (((ar : Nat) : Int), vF 95, vF 96, vF 97, vF 98) (fI u) S ar = rsA (((ar : Nat) : Int), vF 95, vF 96, vF 97, vF 98) (fI (vF 99)) S ar - (sW S sN r.toInt - sW S tN r.toInt))) (fun (u : Nat → Int32) t => va_P (dC, dI) vwCl (WR a k h0 vi vj (fT vF 99 u) vG) t.heap ∧ va_D (va_A (WR a k h0 vi vj vF vG) sz) (WR a k h0 vi vj (fT vF 99 u) vG)) (va_A (WR a k h0 vi vj vF vG) sz)) 0 0 (va_A (WR a k h0 vi vj vF vG) sz) := by
  refine Met.ofW (cc := cX12_push) (maxL := 8) (ret := (some .int)) (by decide) rfl ?_
  intro p e s m args below meth c s₁ B hml hv
  obtain ⟨rfl, hsz, hP, hK, hD0⟩ := hv
  have hx := B.exec
  have hb := B.bytes
  have hr := B.returns
  have hts := atoms_spec (ws := wsRX12_push) B.pre
  have hown : s.vm.findClass RX12 = some m.cls := findClass_of_methodNamed B.named
  have hlocks := B.notSynchronized
  subst hsz
  have hD := hD0.self (sz := s.heap.size)
  generalize hAe : va_A (WR a k h0 vi vj vF vG) s.heap.size = A at hD ⊢
  have hA : ∀ q : Nat, s.heap.size ≤ q → A q := fun q h => by rw [← hAe]; exact Or.inr h
  have hS : va_S A s.heap s.heap [] := va_S.rf
  have hl := lv_entry ([.ref h0, .int (nI sN), .int (nI tN), .int mI]) (n := 8) (Nat.le_of_ble_eq_true rfl)
  rw [lg_entry_eq]
  generalize (lg_sl ([.ref h0, .int (nI sN), .int (nI tN), .int mI]) ++ List.replicate (8 - (lg_sl ([.ref h0, .int (nI sN), .int (nI tN), .int mI])).length) Slot.unset).toArray = ls at hl ⊢
  have hl : lv_has ls 8 [(0, .ref h0), (1, .int (nI sN)), (2, .int (nI tN)), (3, .int mI)] := hl
  refine lv_iload_n hx hb dX12_push_0 rfl (lv_at hl 3 rfl) ?_
  refine lv_istore hx hb dX12_push_1 hl (by decide) rfl (fun ls (hl : lv_has ls _ ([(4, .int mI), (0, .ref h0), (1, .int (nI sN)), (2, .int (nI tN)), (3, .int mI)])) => ?_)
  refine lv_iload_n hx hb dX12_push_3 rfl (lv_at hl 3 rfl) ?_
  refine lv_istore hx hb dX12_push_4 hl (by decide) rfl (fun ls (hl : lv_has ls _ ([(5, .int (nI tN)), (4, .int mI), (0, .ref h0), (1, .int (nI sN)), (2, .int (nI tN)), (3, .int mI)])) => ?_)
  have hl : lv_has _ _ ([(0, .ref h0), (1, .int (nI sN)), (2, .int (nI tN)), (4, .int mI), (5, .int (nI tN))]) := lv_sub hl [2, 3, 4, 1, 0] rfl
  refine (fun (loop : ∀ (n9 : Nat) (nq : Int32) (vN : Nat) (V : Nat → Prop) (H : Heap) (locs : List Loc) (ls : Array Slot), (vN < 12) → (vF 100 vN ≠ 536870912) → (1 ≤ (nq).toInt ∧ (nq).toInt ≤ (mI).toInt) → (V tN ∨ vN = tN) → (VsO (vF 95) (vF 96) (vF 97) (vF 98) (vF 99) ar sN (vF 100) (vF 101) rk V (nq).toInt vN) →  (rk vN < n9) → va_P (dC, dI) vwCl (WR a k h0 vi vj vF vG) H → va_D A (WR a k h0 vi vj vF vG) → va_S A s.heap H locs → lv_has ls 8 [(0, .ref h0), (1, .int (nI sN)), (2, .int (nI tN)), (4, .int nq), (5, .int (nI vN))] → W p l e _ s m _ below meth c H locs 0 0 _ (F0 m 6 ls [])) => loop (rk tN + 1) mI tN (fun _ => False) _ _ _ (ht12) (htl) (by omega) (Or.inr rfl) (fun w hw => hw.elim) (by omega) hP hD hS hl) ?_
  intro n9
  induction n9 with
  | zero => intro nq vN V H locs ls hv12 hvl hnq hVt0 hVs hf9; exact False.elim (by omega)
  | succ n9 ih6 =>
    intro nq vN V H locs ls hv12 hvl hnq hVt0 hVs hf6 hP hD hS hl
    refine lv_iload hx hb dX12_push_6 (lv_at hl 4 rfl) ?_
    refine lv_iload_n hx hb dX12_push_8 rfl (lv_at hl 1 rfl) ?_
    refine lv_icmp_eq (tgt := 131) hx hb dX12_push_9 (by decide) (fun c_9 => ?_) (fun c_9 => ?_)
    · have t_9 : ((vN : Nat) : Int) = ((sN : Nat) : Int) := toI_eq c_9 (nI_toInt (by omega)) (nI_toInt (by omega))
      have evs : vN = sN := (nI_eq (by omega) (by omega)).mp c_9
      have hVt : V tN := hVt0.resolve_right (fun e9 => htsn (by rw [← e9]; exact evs))
      have hVs2 : VsO (vF 95) (vF 96) (vF 97) (vF 98) (vF 99) ar sN (vF 100) (vF 101) rk V (nq).toInt sN := by (have h9 := hVs); rw [evs] at h9; exact h9
      refine lv_iload_n hx hb dX12_push_131 rfl (lv_at hl 2 rfl) ?_
      refine lv_istore hx hb dX12_push_132 hl (by decide) rfl (fun ls (hl : lv_has ls _ ([(5, .int (nI tN)), (0, .ref h0), (1, .int (nI sN)), (2, .int (nI tN)), (4, .int nq)])) => ?_)
      have e9 : fT vF 99 (vF 99) = vF := by funext q9; by_cases h9_99 : q9 = 99; (subst h9_99; exact (fT_eq _ _ _).trans (Eq.trans (by first | with_reducible rfl | with_reducible assumption | (symm; with_reducible assumption) | rfl | assumption | (symm; assumption) | (subst_vars; rfl)) (Eq.refl _).symm)); exact (fT_ne _ _ h9_99).trans (Eq.refl _).symm
      have hP := wr_PF e9 hP
      have hD := wr_DF e9 hD
      clear e9
      have hl : lv_has _ _ ([(0, .ref h0), (1, .int (nI sN)), (4, .int nq), (5, .int (nI tN))]) := lv_sub hl [1, 2, 4, 0] rfl
      refine (fun (loop : ∀ (n9 : Nat) (v2 : Nat) (f2 : Nat → Int32) (H : Heap) (locs : List Loc) (ls : Array Slot), (v2 < 12) → (V v2 ∨ v2 = sN) → (FlO (vF 97) f2 ar) → (∀ w u a c, V w → u < 12 → rk w ≤ rk v2 → Lk (vF 95) (vF 96) (vF 97) (vF 98) (vF 99) ar (vF 101 w) w u a c → rk u < rk w → f2 a = vF 99 a) → (∀ a, a < ar → f2 a = vF 99 a ∨ ∃ w, w < 12 ∧ vF 100 w ≠ 536870912 ∧ w ≠ sN ∧ ((vF 101 w).toInt = (a : Int) + 1 ∨ (vF 101 w).toInt = -((a : Int) + 1))) → (∀ S, rsA (((ar : Nat) : Int), vF 95, vF 96, vF 97, vF 98) (fI f2) S ar = rsA (((ar : Nat) : Int), vF 95, vF 96, vF 97, vF 98) (fI (vF 99)) S ar - (sW S v2 (nq).toInt - sW S tN (nq).toInt)) →  (rk v2 < n9) → va_P (dC, dI) vwCl (WR a k h0 vi vj (fT vF 99 f2) vG) H → va_D A (WR a k h0 vi vj (fT vF 99 f2) vG) → va_S A s.heap H locs → lv_has ls 8 [(0, .ref h0), (1, .int (nI sN)), (4, .int nq), (5, .int (nI v2))] → W p l e _ s m _ below meth c H locs 0 0 _ (F0 m 134 ls [])) => loop (rk tN + 1) tN (vF 99) _ _ _ (ht12) (Or.inl hVt) (hFl) (fun w u a c _ _ _ _ _ => rfl) (fun a _ => Or.inl rfl) (fun S => by omega) (by omega) hP hD hS hl) ?_
      intro n9
      induction n9 with
      | zero => intro v2 f2 H locs ls hv212 hv2 hf2 hun hg hRS hf9; exact False.elim (by omega)
      | succ n9 ih134_1 =>
        intro v2 f2 H locs ls hv212 hv2 hf2 hun hg hRS hf134_1 hP hD hS hl
        refine lv_iload hx hb dX12_push_134 (lv_at hl 3 rfl) ?_
        refine lv_iload_n hx hb dX12_push_136 rfl (lv_at hl 1 rfl) ?_
        refine lv_icmp_eq (tgt := 236) hx hb dX12_push_137 (by decide) (fun c_137 => ?_) (fun c_137 => ?_)
        · have t_137 : ((v2 : Nat) : Int) = ((sN : Nat) : Int) := toI_eq c_137 (nI_toInt (by omega)) (nI_toInt (by omega))
          refine lv_iload hx hb dX12_push_236 (lv_at hl 2 rfl) ?_
          refine W.widen (k := 0) (n := 0) (by decide +kernel) (by decide +kernel) ?_
          exact W.iret (v := nq) hx hb hr (fun t9_ ht hW => ⟨⟨nq, f2, rfl, by (try dsimp only); exact ⟨hnq, hf2, hg, by (have ev9 : v2 = sN := (nI_eq (by omega) (by omega)).mp c_137); (have h9 := hRS); rw [ev9] at h9; exact h9⟩, by rw [ht]; exact hP, hD⟩, hS.F ht⟩) hS.2.2 dX12_push_238
        · have t_137 : ¬ ((v2 : Nat) : Int) = ((sN : Nat) : Int) := toI_neq c_137 (nI_toInt (by omega)) (nI_toInt (by omega))
          have hvs2 : v2 ≠ sN := fun e9 => c_137 (by rw [e9])
          have hVv := hv2.resolve_right hvs2
          obtain ⟨g1, g2, g3, uN, aN, cN, hu12, hLk, hrk, hnr, hVu⟩ := hVs2 v2 hVv
          have haN := hLk.1
          have hfa := hFl aN haN
          obtain ⟨x9, z9, _, _, _, _, _, hrm, _⟩ := hAr aN haN
          have hf2a := hf2 aN haN
          have hun9 := hun v2 uN aN cN hVv hu12 (Nat.le_refl _) hLk hrk
          refine lv_aload_n hx hb dX12_push_140 rfl (lv_at hl 0 rfl) ?_
          refine va_get (D := (dC, dI)) (ci := 12) (v := .ref (a 101)) (C := RX12) (T := TX12) (N := 163) (fs := fM (vS a vi vj)) hx hb hts iwsRX12_push_in12 hown hK hP 0 rfl rfl 157 (by decide) (hts _ hm_r_X12_push_0) (fun _ h9 => h9) rfl dX12_push_141 ?_
          refine lv_iload hx hb dX12_push_144 (lv_at hl 3 rfl) ?_
          refine va_iald (cA := k 101) (n := 12) (f := (vF 101)) hx hb hK hP 102 101 (WR_get 101 (by decide)) (TR_get 101 (by decide)) (vp_in_nI (show v2 < 12 by omega) (by omega)) dX12_push_146 ?_
          refine lv_topi (fun y1 hy1 => ?_)
          obtain rfl : ((vF 101) v2) = y1 := (hy1.trans (by rw [nI_clamp (by omega)])).symm
          refine lv_if_le (tgt := 154) hx hb dX12_push_147 (by decide) (fun c_147 => ?_) (fun c_147 => ?_)
          · have t_147 : (((vF 101) v2)).toInt ≤ 0 := toI_le c_147 rfl (by decide)
            refine lv_iconst (v := 0) hx hb dX12_push_154 (by decide) ?_
            refine lv_istore hx hb dX12_push_155 hl (by decide) rfl (fun ls (hl : lv_has ls _ ([(6, .int 0), (0, .ref h0), (1, .int (nI sN)), (4, .int nq), (5, .int (nI v2))])) => ?_)
            refine lv_iload hx hb dX12_push_157 (lv_at hl 0 rfl) ?_
            refine lv_if_eq (tgt := 174) hx hb dX12_push_159 (by decide) (fun _ => ?_) (fun c9 => absurd (by decide) c9)
            obtain ⟨hb1, hb2, hb3, hb4, hb5⟩ := hLk.2.resolve_left (fun h => by have h9 := h.1; omega)
            refine lv_aload_n hx hb dX12_push_174 rfl (lv_at hl 1 rfl) ?_
            refine va_get (D := (dC, dI)) (ci := 12) (v := .ref (a 101)) (C := RX12) (T := TX12) (N := 163) (fs := fM (vS a vi vj)) hx hb hts iwsRX12_push_in12 hown hK hP 0 rfl rfl 157 (by decide) (hts _ hm_r_X12_push_0) (fun _ h9 => h9) rfl dX12_push_175 ?_
            refine lv_iload hx hb dX12_push_178 (lv_at hl 4 rfl) ?_
            refine va_iald (cA := k 101) (n := 12) (f := (vF 101)) hx hb hK hP 102 101 (WR_get 101 (by decide)) (TR_get 101 (by decide)) (vp_in_nI (show v2 < 12 by omega) (by omega)) dX12_push_180 ?_
            refine lv_topi (fun y2 hy2 => ?_)
            obtain rfl : ((vF 101) v2) = y2 := (hy2.trans (by rw [nI_clamp (by omega)])).symm
            refine lv_ineg hx hb dX12_push_181 ?_
            refine lv_iconst (v := 1) hx hb dX12_push_182 (by decide) ?_
            refine lv_isub hx hb dX12_push_183 ?_
            refine lv_topi (fun y3 hy3 => ?_)
            obtain rfl : (nI aN) = y3 := (hy3.trans (by_b hb1 (by omega))).symm
            refine lv_istore hx hb dX12_push_184 hl (by decide) rfl (fun ls (hl : lv_has ls _ ([(7, .int (nI aN)), (6, .int 0), (0, .ref h0), (1, .int (nI sN)), (4, .int nq), (5, .int (nI v2))])) => ?_)
            refine lv_aload_n hx hb dX12_push_186 rfl (lv_at hl 2 rfl) ?_
            refine va_get (D := (dC, dI)) (ci := 12) (v := .ref (a 99)) (C := RX12) (T := TX12) (N := 163) (fs := fM (vS a vi vj)) hx hb hts iwsRX12_push_in12 hown hK hP 0 rfl rfl 155 (by decide) (hts _ hm_r_X12_push_1) (fun _ h9 => h9) rfl dX12_push_187 ?_
            refine lv_iload hx hb dX12_push_190 (lv_at hl 0 rfl) ?_
            refine lv_dup2_11 hx hb dX12_push_192 rfl rfl ?_
            refine va_iald (cA := k 99) (n := 40) (f := f2) hx hb hK hP 100 99 (WR_get 99 (by decide)) (TR_get 99 (by decide)) (vp_in_nI (show aN < 40 by omega) (by omega)) dX12_push_193 ?_
            refine lv_topi (fun y4 hy4 => ?_)
            obtain rfl : (f2 aN) = y4 := (hy4.trans (by rw [nI_clamp (by omega)])).symm
            refine lv_iload hx hb dX12_push_194 (lv_at hl 1 rfl) ?_
            refine lv_if_eq (tgt := 204) hx hb dX12_push_196 (by decide) (fun _ => ?_) (fun c9 => absurd (by decide) c9)
            refine lv_iload hx hb dX12_push_204 (lv_at hl 4 rfl) ?_
            refine lv_ineg hx hb dX12_push_206 ?_
            refine lv_iadd hx hb dX12_push_207 ?_
            refine va_iast (cA := k 99) (n := 40) (f := f2) hx hb hK hP hD hS 100 99 (WR_get 99 (by decide)) (TR_get 99 (by decide)) (vp_in_nI (show aN < 40 by omega) (by omega)) dX12_push_208 (fun H locs hP hD hS => ?_)
            have e9 : fT vF 99 (upd f2 ((nI aN)).toNatClampNeg ((f2 aN) + (-nq))) = fT (fT vF 99 f2) 99 (upd f2 ((nI aN)).toNatClampNeg ((f2 aN) + (-nq))) := (fT_sm _ _ _ _).symm
            have hP := wr_PF e9 (fz_w (WR_F 99 (by decide) _ rfl) hP)
            have hD := wr_DF e9 (fz_wD (WR_F 99 (by decide) _ rfl) hD)
            clear e9
            have hrs : rsd (vF 97) (vF 99) (vF 101 v2) aN = (vF 99 aN).toInt := by unfold rsd; rw [if_neg (by omega)]
            have hng := (neg32 (x := nq) (b := 1000) (by rw [hrs] at hnr; omega) (by decide)).2
            have hnw : (f2 aN + -nq).toInt = (f2 aN).toInt - (nq).toInt := by rw [addB (by rw [hun9]; omega) (by rw [hng]; rw [hrs] at hnr; omega), hng]; omega
            refine lv_iload hx hb dX12_push_209 (lv_at hl 1 rfl) ?_
            refine lv_if_eq (tgt := 224) hx hb dX12_push_211 (by decide) (fun _ => ?_) (fun c9 => absurd (by decide) c9)
            refine lv_aload_n hx hb dX12_push_224 rfl (lv_at hl 2 rfl) ?_
            refine va_get (D := (dC, dI)) (ci := 12) (v := .ref (a 96)) (C := RX12) (T := TX12) (N := 163) (fs := fM (vS a vi vj)) hx hb hts iwsRX12_push_in12 hown hK hP 0 rfl rfl 152 (by decide) (hts _ hm_r_X12_push_2) (fun _ h9 => h9) rfl dX12_push_225 ?_
            refine lv_iload hx hb dX12_push_228 (lv_at hl 0 rfl) ?_
            refine va_iald (cA := k 96) (n := 40) (f := (vF 96)) hx hb hK hP 97 96 (WR_get 96 (by decide)) (TR_get 96 (by decide)) (vp_in_nI (show aN < 40 by omega) (by omega)) dX12_push_230 ?_
            refine lv_topi (fun y5 hy5 => ?_)
            obtain rfl : ((vF 96) aN) = y5 := (hy5.trans (by rw [nI_clamp (by omega)])).symm
            refine lv_topi (fun y6 hy6 => ?_)
            obtain rfl : (nI uN) = y6 := (hy6.trans (hb2)).symm
            refine lv_istore hx hb dX12_push_231 hl (by decide) rfl (fun ls (hl : lv_has ls _ ([(5, .int (nI uN)), (7, .int (nI aN)), (6, .int 0), (0, .ref h0), (1, .int (nI sN)), (4, .int nq)])) => ?_)
            refine lv_goto (tgt := 134) hx hb dX12_push_233 (by decide) ?_
            have hl : lv_has _ _ ([(0, .ref h0), (1, .int (nI sN)), (4, .int nq), (5, .int (nI uN))]) := lv_sub hl [3, 4, 5, 0] rfl
            exact ih134_1 uN (upd f2 ((nI aN)).toNatClampNeg ((f2 aN) + (-nq))) _ _ _ (hu12) (hVu) (fun a9 ha9 => by rw [upd_at (by omega)]; by_cases e9 : a9 = aN; (rw [if_pos e9, hnw, e9, hun9]; rw [hrs] at hnr; omega); (rw [if_neg e9]; exact hf2 a9 ha9)) (fun w9 u9 a9 c9 k1 k2 k3 k4 k5 => by rw [upd_at (by omega), if_neg (fun e9 => by subst e9; (have ew := hT.apart (hVs2 w9 k1).1 g1 k2 hu12 k4 hLk k5 hrk); subst ew; omega)]; exact hun w9 u9 a9 c9 k1 k2 (by omega) k4 k5) (fun a9 ha9 => by rw [upd_at (by omega)]; by_cases e9 : a9 = aN; (subst e9; exact Or.inr ⟨v2, g1, g2, g3, Or.inr hb1⟩); (rw [if_neg e9]; exact hg a9 ha9)) (fun S => by refine Eq.trans (rsA_put (fl := fI f2) (a := aN) (k := (-(nq).toInt)) haN (by unfold fI; (try dsimp only); rw [upd_at (by omega), if_pos rfl, hnw] <;> omega) (fun b9 hb9 => by unfold fI; (try dsimp only); rw [upd_at (by omega), if_neg hb9])) ?_; rw [hRS S, tFr_nI (d := (((ar : Nat) : Int), vF 95, vF 96, vF 97, vF 98)) (by omega) hb3, tTo_nI (d := (((ar : Nat) : Int), vF 95, vF 96, vF 97, vF 98)) (by omega) hb2]; rw [sW_neg, sW_neg]; omega) (by omega) hP hD hS hl
          · have t_147 : ¬ (((vF 101) v2)).toInt ≤ 0 := toI_nle c_147 rfl (by decide)
            refine lv_iconst (v := 1) hx hb dX12_push_150 (by decide) ?_
            refine lv_goto (tgt := 155) hx hb dX12_push_151 (by decide) ?_
            refine lv_istore hx hb dX12_push_155 hl (by decide) rfl (fun ls (hl : lv_has ls _ ([(6, .int 1), (0, .ref h0), (1, .int (nI sN)), (4, .int nq), (5, .int (nI v2))])) => ?_)
            refine lv_iload hx hb dX12_push_157 (lv_at hl 0 rfl) ?_
            refine lv_if_eq (tgt := 174) hx hb dX12_push_159 (by decide) (fun c9 => absurd c9 (by decide)) (fun _ => ?_)
            obtain ⟨hb1, hb2, hb3, hb4, hb5⟩ := hLk.2.resolve_right (fun h => by have h9 := h.1; omega)
            refine lv_aload_n hx hb dX12_push_162 rfl (lv_at hl 1 rfl) ?_
            refine va_get (D := (dC, dI)) (ci := 12) (v := .ref (a 101)) (C := RX12) (T := TX12) (N := 163) (fs := fM (vS a vi vj)) hx hb hts iwsRX12_push_in12 hown hK hP 0 rfl rfl 157 (by decide) (hts _ hm_r_X12_push_0) (fun _ h9 => h9) rfl dX12_push_163 ?_
            refine lv_iload hx hb dX12_push_166 (lv_at hl 4 rfl) ?_
            refine va_iald (cA := k 101) (n := 12) (f := (vF 101)) hx hb hK hP 102 101 (WR_get 101 (by decide)) (TR_get 101 (by decide)) (vp_in_nI (show v2 < 12 by omega) (by omega)) dX12_push_168 ?_
            refine lv_topi (fun y7 hy7 => ?_)
            obtain rfl : ((vF 101) v2) = y7 := (hy7.trans (by rw [nI_clamp (by omega)])).symm
            refine lv_iconst (v := 1) hx hb dX12_push_169 (by decide) ?_
            refine lv_isub hx hb dX12_push_170 ?_
            refine lv_topi (fun y8 hy8 => ?_)
            obtain rfl : (nI aN) = y8 := (hy8.trans (by_f hb1 (by omega))).symm
            refine lv_goto (tgt := 184) hx hb dX12_push_171 (by decide) ?_
            refine lv_istore hx hb dX12_push_184 hl (by decide) rfl (fun ls (hl : lv_has ls _ ([(7, .int (nI aN)), (6, .int 1), (0, .ref h0), (1, .int (nI sN)), (4, .int nq), (5, .int (nI v2))])) => ?_)
            refine lv_aload_n hx hb dX12_push_186 rfl (lv_at hl 2 rfl) ?_
            refine va_get (D := (dC, dI)) (ci := 12) (v := .ref (a 99)) (C := RX12) (T := TX12) (N := 163) (fs := fM (vS a vi vj)) hx hb hts iwsRX12_push_in12 hown hK hP 0 rfl rfl 155 (by decide) (hts _ hm_r_X12_push_1) (fun _ h9 => h9) rfl dX12_push_187 ?_
            refine lv_iload hx hb dX12_push_190 (lv_at hl 0 rfl) ?_
            refine lv_dup2_11 hx hb dX12_push_192 rfl rfl ?_
            refine va_iald (cA := k 99) (n := 40) (f := f2) hx hb hK hP 100 99 (WR_get 99 (by decide)) (TR_get 99 (by decide)) (vp_in_nI (show aN < 40 by omega) (by omega)) dX12_push_193 ?_
            refine lv_topi (fun y9 hy9 => ?_)
            obtain rfl : (f2 aN) = y9 := (hy9.trans (by rw [nI_clamp (by omega)])).symm
            refine lv_iload hx hb dX12_push_194 (lv_at hl 1 rfl) ?_
            refine lv_if_eq (tgt := 204) hx hb dX12_push_196 (by decide) (fun c9 => absurd c9 (by decide)) (fun _ => ?_)
            refine lv_iload hx hb dX12_push_199 (lv_at hl 4 rfl) ?_
            refine lv_goto (tgt := 207) hx hb dX12_push_201 (by decide) ?_
            refine lv_iadd hx hb dX12_push_207 ?_
            refine va_iast (cA := k 99) (n := 40) (f := f2) hx hb hK hP hD hS 100 99 (WR_get 99 (by decide)) (TR_get 99 (by decide)) (vp_in_nI (show aN < 40 by omega) (by omega)) dX12_push_208 (fun H locs hP hD hS => ?_)
            have e9 : fT vF 99 (upd f2 ((nI aN)).toNatClampNeg ((f2 aN) + nq)) = fT (fT vF 99 f2) 99 (upd f2 ((nI aN)).toNatClampNeg ((f2 aN) + nq)) := (fT_sm _ _ _ _).symm
            have hP := wr_PF e9 (fz_w (WR_F 99 (by decide) _ rfl) hP)
            have hD := wr_DF e9 (fz_wD (WR_F 99 (by decide) _ rfl) hD)
            clear e9
            have hrs : rsd (vF 97) (vF 99) (vF 101 v2) aN = (vF 97 aN).toInt - (vF 99 aN).toInt := by unfold rsd; rw [if_pos (by omega)]
            have hnw : (f2 aN + nq).toInt = (f2 aN).toInt + (nq).toInt := addB (by rw [hun9]; omega) (by rw [hrs] at hnr; omega)
            refine lv_iload hx hb dX12_push_209 (lv_at hl 1 rfl) ?_
            refine lv_if_eq (tgt := 224) hx hb dX12_push_211 (by decide) (fun c9 => absurd c9 (by decide)) (fun _ => ?_)
            refine lv_aload_n hx hb dX12_push_214 rfl (lv_at hl 2 rfl) ?_
            refine va_get (D := (dC, dI)) (ci := 12) (v := .ref (a 95)) (C := RX12) (T := TX12) (N := 163) (fs := fM (vS a vi vj)) hx hb hts iwsRX12_push_in12 hown hK hP 0 rfl rfl 151 (by decide) (hts _ hm_r_X12_push_3) (fun _ h9 => h9) rfl dX12_push_215 ?_
            refine lv_iload hx hb dX12_push_218 (lv_at hl 0 rfl) ?_
            refine va_iald (cA := k 95) (n := 40) (f := (vF 95)) hx hb hK hP 96 95 (WR_get 95 (by decide)) (TR_get 95 (by decide)) (vp_in_nI (show aN < 40 by omega) (by omega)) dX12_push_220 ?_
            refine lv_topi (fun y10 hy10 => ?_)
            obtain rfl : ((vF 95) aN) = y10 := (hy10.trans (by rw [nI_clamp (by omega)])).symm
            refine lv_topi (fun y11 hy11 => ?_)
            obtain rfl : (nI uN) = y11 := (hy11.trans (hb2)).symm
            refine lv_goto (tgt := 231) hx hb dX12_push_221 (by decide) ?_
            refine lv_istore hx hb dX12_push_231 hl (by decide) rfl (fun ls (hl : lv_has ls _ ([(5, .int (nI uN)), (7, .int (nI aN)), (6, .int 1), (0, .ref h0), (1, .int (nI sN)), (4, .int nq)])) => ?_)
            refine lv_goto (tgt := 134) hx hb dX12_push_233 (by decide) ?_
            have hl : lv_has _ _ ([(0, .ref h0), (1, .int (nI sN)), (4, .int nq), (5, .int (nI uN))]) := lv_sub hl [3, 4, 5, 0] rfl
            exact ih134_1 uN (upd f2 ((nI aN)).toNatClampNeg ((f2 aN) + nq)) _ _ _ (hu12) (hVu) (fun a9 ha9 => by rw [upd_at (by omega)]; by_cases e9 : a9 = aN; (rw [if_pos e9, hnw, e9, hun9]; rw [hrs] at hnr; omega); (rw [if_neg e9]; exact hf2 a9 ha9)) (fun w9 u9 a9 c9 k1 k2 k3 k4 k5 => by rw [upd_at (by omega), if_neg (fun e9 => by subst e9; (have ew := hT.apart (hVs2 w9 k1).1 g1 k2 hu12 k4 hLk k5 hrk); subst ew; omega)]; exact hun w9 u9 a9 c9 k1 k2 (by omega) k4 k5) (fun a9 ha9 => by rw [upd_at (by omega)]; by_cases e9 : a9 = aN; (subst e9; exact Or.inr ⟨v2, g1, g2, g3, Or.inl hb1⟩); (rw [if_neg e9]; exact hg a9 ha9)) (fun S => by refine Eq.trans (rsA_put (fl := fI f2) (a := aN) (k := (nq).toInt) haN (by unfold fI; (try dsimp only); rw [upd_at (by omega), if_pos rfl, hnw] <;> omega) (fun b9 hb9 => by unfold fI; (try dsimp only); rw [upd_at (by omega), if_neg hb9])) ?_; rw [hRS S, tFr_nI (d := (((ar : Nat) : Int), vF 95, vF 96, vF 97, vF 98)) (by omega) hb2, tTo_nI (d := (((ar : Nat) : Int), vF 95, vF 96, vF 97, vF 98)) (by omega) hb3]; omega) (by omega) hP hD hS hl
    · have t_9 : ¬ ((vN : Nat) : Int) = ((sN : Nat) : Int) := toI_neq c_9 (nI_toInt (by omega)) (nI_toInt (by omega))
      have hvs : vN ≠ sN := fun e9 => c_9 (by rw [e9])
      obtain ⟨uN, aN, cN, hu12, huw, hLk, hul, hpr, hrk⟩ := hT vN hv12 hvl hvs
      have haN := hLk.1
      have hfa := hFl aN haN
      obtain ⟨x9, z9, _, _, _, _, _, hrm, _⟩ := hAr aN haN
      refine lv_aload_n hx hb dX12_push_12 rfl (lv_at hl 0 rfl) ?_
      refine va_get (D := (dC, dI)) (ci := 12) (v := .ref (a 101)) (C := RX12) (T := TX12) (N := 163) (fs := fM (vS a vi vj)) hx hb hts iwsRX12_push_in12 hown hK hP 0 rfl rfl 157 (by decide) (hts _ hm_r_X12_push_0) (fun _ h9 => h9) rfl dX12_push_13 ?_
      refine lv_iload hx hb dX12_push_16 (lv_at hl 4 rfl) ?_
      refine va_iald (cA := k 101) (n := 12) (f := (vF 101)) hx hb hK hP 102 101 (WR_get 101 (by decide)) (TR_get 101 (by decide)) (vp_in_nI (show vN < 12 by omega) (by omega)) dX12_push_18 ?_
      refine lv_topi (fun y12 hy12 => ?_)
      obtain rfl : ((vF 101) vN) = y12 := (hy12.trans (by rw [nI_clamp (by omega)])).symm
      refine lv_if_le (tgt := 34) hx hb dX12_push_19 (by decide) (fun c_19 => ?_) (fun c_19 => ?_)
      · have t_19 : (((vF 101) vN)).toInt ≤ 0 := toI_le c_19 rfl (by decide)
        obtain ⟨hb1, hb2, hb3, hb4, hb5⟩ := hLk.2.resolve_left (fun h => by have h9 := h.1; omega)
        refine lv_aload_n hx hb dX12_push_34 rfl (lv_at hl 0 rfl) ?_
        refine va_get (D := (dC, dI)) (ci := 12) (v := .ref (a 101)) (C := RX12) (T := TX12) (N := 163) (fs := fM (vS a vi vj)) hx hb hts iwsRX12_push_in12 hown hK hP 0 rfl rfl 157 (by decide) (hts _ hm_r_X12_push_0) (fun _ h9 => h9) rfl dX12_push_35 ?_
        refine lv_iload hx hb dX12_push_38 (lv_at hl 4 rfl) ?_
        refine va_iald (cA := k 101) (n := 12) (f := (vF 101)) hx hb hK hP 102 101 (WR_get 101 (by decide)) (TR_get 101 (by decide)) (vp_in_nI (show vN < 12 by omega) (by omega)) dX12_push_40 ?_
        refine lv_topi (fun y13 hy13 => ?_)
        obtain rfl : ((vF 101) vN) = y13 := (hy13.trans (by rw [nI_clamp (by omega)])).symm
        refine lv_ineg hx hb dX12_push_41 ?_
        refine lv_iconst (v := 1) hx hb dX12_push_42 (by decide) ?_
        refine lv_isub hx hb dX12_push_43 ?_
        refine lv_topi (fun y14 hy14 => ?_)
        obtain rfl : (nI aN) = y14 := (hy14.trans (by_b hb1 (by omega))).symm
        refine lv_istore hx hb dX12_push_44 hl (by decide) rfl (fun ls (hl : lv_has ls _ ([(6, .int (nI aN)), (0, .ref h0), (1, .int (nI sN)), (2, .int (nI tN)), (4, .int nq), (5, .int (nI vN))])) => ?_)
        refine lv_aload_n hx hb dX12_push_46 rfl (lv_at hl 1 rfl) ?_
        refine va_get (D := (dC, dI)) (ci := 12) (v := .ref (a 101)) (C := RX12) (T := TX12) (N := 163) (fs := fM (vS a vi vj)) hx hb hts iwsRX12_push_in12 hown hK hP 0 rfl rfl 157 (by decide) (hts _ hm_r_X12_push_0) (fun _ h9 => h9) rfl dX12_push_47 ?_
        refine lv_iload hx hb dX12_push_50 (lv_at hl 5 rfl) ?_
        refine va_iald (cA := k 101) (n := 12) (f := (vF 101)) hx hb hK hP 102 101 (WR_get 101 (by decide)) (TR_get 101 (by decide)) (vp_in_nI (show vN < 12 by omega) (by omega)) dX12_push_52 ?_
        refine lv_topi (fun y15 hy15 => ?_)
        obtain rfl : ((vF 101) vN) = y15 := (hy15.trans (by rw [nI_clamp (by omega)])).symm
        refine lv_if_le (tgt := 74) hx hb dX12_push_53 (by decide) (fun c_53 => ?_) (fun c9 => False.elim (c9 c_19))
        have t_53 : (((vF 101) vN)).toInt ≤ 0 := toI_le c_53 rfl (by decide)
        refine lv_aload_n hx hb dX12_push_74 rfl (lv_at hl 1 rfl) ?_
        refine va_get (D := (dC, dI)) (ci := 12) (v := .ref (a 99)) (C := RX12) (T := TX12) (N := 163) (fs := fM (vS a vi vj)) hx hb hts iwsRX12_push_in12 hown hK hP 0 rfl rfl 155 (by decide) (hts _ hm_r_X12_push_1) (fun _ h9 => h9) rfl dX12_push_75 ?_
        refine lv_iload hx hb dX12_push_78 (lv_at hl 0 rfl) ?_
        refine va_iald (cA := k 99) (n := 40) (f := (vF 99)) hx hb hK hP 100 99 (WR_get 99 (by decide)) (TR_get 99 (by decide)) (vp_in_nI (show aN < 40 by omega) (by omega)) dX12_push_80 ?_
        refine lv_topi (fun y16 hy16 => ?_)
        obtain rfl : ((vF 99) aN) = y16 := (hy16.trans (by rw [nI_clamp (by omega)])).symm
        have hrs : rsd (vF 97) (vF 99) (vF 101 vN) aN = (vF 99 aN).toInt := by unfold rsd; rw [if_neg (by omega)]
        have hro : (vF 99 aN).toInt = rsd (vF 97) (vF 99) (vF 101 vN) aN := hrs.symm
        refine lv_istore hx hb dX12_push_81 hl (by decide) rfl (fun ls (hl : lv_has ls _ ([(7, .int ((vF 99) aN)), (6, .int (nI aN)), (0, .ref h0), (1, .int (nI sN)), (2, .int (nI tN)), (4, .int nq), (5, .int (nI vN))])) => ?_)
        refine lv_iload hx hb dX12_push_83 (lv_at hl 0 rfl) ?_
        refine lv_iload hx hb dX12_push_85 (lv_at hl 5 rfl) ?_
        refine W.cut (pc := 97) (fun H locs ls stk => ∃ (n2 : Int32), (1 ≤ (n2).toInt ∧ (n2).toInt ≤ (nq).toInt ∧ (n2).toInt ≤ rsd (vF 97) (vF 99) (vF 101 vN) aN) ∧  stk = [.int n2] ∧ va_P (dC, dI) vwCl (WR a k h0 vi vj vF vG) H ∧ va_D A (WR a k h0 vi vj vF vG) ∧ va_S A s.heap H locs ∧ lv_has ls 8 [(7, .int ((vF 99) aN)), (6, .int (nI aN)), (0, .ref h0), (1, .int (nI sN)), (2, .int (nI tN)), (4, .int nq), (5, .int (nI vN))]) (fun join1 => ?_) ?_
        · refine lv_icmp_ge (tgt := 95) hx hb dX12_push_87 (by decide) (fun c_87 => ?_) (fun c_87 => ?_)
          · have t_87 : (((vF 99) aN)).toInt ≥ (nq).toInt := toI_ge c_87 rfl rfl
            refine lv_iload hx hb dX12_push_95 (lv_at hl 5 rfl) ?_
            have hl : lv_has _ _ ([(7, .int ((vF 99) aN)), (6, .int (nI aN)), (0, .ref h0), (1, .int (nI sN)), (2, .int (nI tN)), (4, .int nq), (5, .int (nI vN))]) := lv_sub hl [0, 1, 2, 3, 4, 5, 6] rfl
            exact join1 _ _ _ _ ⟨nq, by omega, rfl, hP, hD, hS, hl⟩
          · have t_87 : ¬ (((vF 99) aN)).toInt ≥ (nq).toInt := toI_nge c_87 rfl rfl
            refine lv_iload hx hb dX12_push_90 (lv_at hl 0 rfl) ?_
            refine lv_goto (tgt := 97) hx hb dX12_push_92 (by decide) ?_
            have hl : lv_has _ _ ([(7, .int ((vF 99) aN)), (6, .int (nI aN)), (0, .ref h0), (1, .int (nI sN)), (2, .int (nI tN)), (4, .int nq), (5, .int (nI vN))]) := lv_sub hl [0, 1, 2, 3, 4, 5, 6] rfl
            exact join1 _ _ _ _ ⟨((vF 99) aN), by omega, rfl, hP, hD, hS, hl⟩
        · rintro H locs ls stk ⟨n2, hn2, rfl, hP, hD, hS, hl⟩
          refine lv_istore hx hb dX12_push_97 hl (by decide) rfl (fun ls (hl : lv_has ls _ ([(4, .int n2), (7, .int ((vF 99) aN)), (6, .int (nI aN)), (0, .ref h0), (1, .int (nI sN)), (2, .int (nI tN)), (5, .int (nI vN))])) => ?_)
          refine lv_aload_n hx hb dX12_push_99 rfl (lv_at hl 3 rfl) ?_
          refine va_get (D := (dC, dI)) (ci := 12) (v := .ref (a 101)) (C := RX12) (T := TX12) (N := 163) (fs := fM (vS a vi vj)) hx hb hts iwsRX12_push_in12 hown hK hP 0 rfl rfl 157 (by decide) (hts _ hm_r_X12_push_0) (fun _ h9 => h9) rfl dX12_push_100 ?_
          refine lv_iload hx hb dX12_push_103 (lv_at hl 6 rfl) ?_
          refine va_iald (cA := k 101) (n := 12) (f := (vF 101)) hx hb hK hP 102 101 (WR_get 101 (by decide)) (TR_get 101 (by decide)) (vp_in_nI (show vN < 12 by omega) (by omega)) dX12_push_105 ?_
          refine lv_topi (fun y17 hy17 => ?_)
          obtain rfl : ((vF 101) vN) = y17 := (hy17.trans (by rw [nI_clamp (by omega)])).symm
          refine lv_if_le (tgt := 119) hx hb dX12_push_106 (by decide) (fun c_106 => ?_) (fun c9 => False.elim (c9 c_19))
          have t_106 : (((vF 101) vN)).toInt ≤ 0 := toI_le c_106 rfl (by decide)
          refine lv_aload_n hx hb dX12_push_119 rfl (lv_at hl 3 rfl) ?_
          refine va_get (D := (dC, dI)) (ci := 12) (v := .ref (a 96)) (C := RX12) (T := TX12) (N := 163) (fs := fM (vS a vi vj)) hx hb hts iwsRX12_push_in12 hown hK hP 0 rfl rfl 152 (by decide) (hts _ hm_r_X12_push_2) (fun _ h9 => h9) rfl dX12_push_120 ?_
          refine lv_iload hx hb dX12_push_123 (lv_at hl 2 rfl) ?_
          refine va_iald (cA := k 96) (n := 40) (f := (vF 96)) hx hb hK hP 97 96 (WR_get 96 (by decide)) (TR_get 96 (by decide)) (vp_in_nI (show aN < 40 by omega) (by omega)) dX12_push_125 ?_
          refine lv_topi (fun y18 hy18 => ?_)
          obtain rfl : ((vF 96) aN) = y18 := (hy18.trans (by rw [nI_clamp (by omega)])).symm
          refine lv_topi (fun y19 hy19 => ?_)
          obtain rfl : (nI uN) = y19 := (hy19.trans (hb2)).symm
          refine lv_istore hx hb dX12_push_126 hl (by decide) rfl (fun ls (hl : lv_has ls _ ([(5, .int (nI uN)), (4, .int n2), (7, .int ((vF 99) aN)), (6, .int (nI aN)), (0, .ref h0), (1, .int (nI sN)), (2, .int (nI tN))])) => ?_)
          refine lv_goto (tgt := 6) hx hb dX12_push_128 (by decide) ?_
          have hl : lv_has _ _ ([(0, .ref h0), (1, .int (nI sN)), (2, .int (nI tN)), (4, .int n2), (5, .int (nI uN))]) := lv_sub hl [4, 5, 6, 1, 0] rfl
          exact ih6 n2 uN (fun w => V w ∨ w = vN) _ _ _ (hu12) (hul) (by omega) (by rcases hVt0 with h9 | h9; (exact Or.inl (Or.inl h9)); (exact Or.inl (Or.inr h9.symm))) (hVs.next hv12 hvl hvs hu12 hLk hrk (by omega) (by omega)) (by omega) hP hD hS hl
      · have t_19 : ¬ (((vF 101) vN)).toInt ≤ 0 := toI_nle c_19 rfl (by decide)
        obtain ⟨hb1, hb2, hb3, hb4, hb5⟩ := hLk.2.resolve_right (fun h => by have h9 := h.1; omega)
        refine lv_aload_n hx hb dX12_push_22 rfl (lv_at hl 0 rfl) ?_
        refine va_get (D := (dC, dI)) (ci := 12) (v := .ref (a 101)) (C := RX12) (T := TX12) (N := 163) (fs := fM (vS a vi vj)) hx hb hts iwsRX12_push_in12 hown hK hP 0 rfl rfl 157 (by decide) (hts _ hm_r_X12_push_0) (fun _ h9 => h9) rfl dX12_push_23 ?_
        refine lv_iload hx hb dX12_push_26 (lv_at hl 4 rfl) ?_
        refine va_iald (cA := k 101) (n := 12) (f := (vF 101)) hx hb hK hP 102 101 (WR_get 101 (by decide)) (TR_get 101 (by decide)) (vp_in_nI (show vN < 12 by omega) (by omega)) dX12_push_28 ?_
        refine lv_topi (fun y20 hy20 => ?_)
        obtain rfl : ((vF 101) vN) = y20 := (hy20.trans (by rw [nI_clamp (by omega)])).symm
        refine lv_iconst (v := 1) hx hb dX12_push_29 (by decide) ?_
        refine lv_isub hx hb dX12_push_30 ?_
        refine lv_topi (fun y21 hy21 => ?_)
        obtain rfl : (nI aN) = y21 := (hy21.trans (by_f hb1 (by omega))).symm
        refine lv_goto (tgt := 44) hx hb dX12_push_31 (by decide) ?_
        refine lv_istore hx hb dX12_push_44 hl (by decide) rfl (fun ls (hl : lv_has ls _ ([(6, .int (nI aN)), (0, .ref h0), (1, .int (nI sN)), (2, .int (nI tN)), (4, .int nq), (5, .int (nI vN))])) => ?_)
        refine lv_aload_n hx hb dX12_push_46 rfl (lv_at hl 1 rfl) ?_
        refine va_get (D := (dC, dI)) (ci := 12) (v := .ref (a 101)) (C := RX12) (T := TX12) (N := 163) (fs := fM (vS a vi vj)) hx hb hts iwsRX12_push_in12 hown hK hP 0 rfl rfl 157 (by decide) (hts _ hm_r_X12_push_0) (fun _ h9 => h9) rfl dX12_push_47 ?_
        refine lv_iload hx hb dX12_push_50 (lv_at hl 5 rfl) ?_
        refine va_iald (cA := k 101) (n := 12) (f := (vF 101)) hx hb hK hP 102 101 (WR_get 101 (by decide)) (TR_get 101 (by decide)) (vp_in_nI (show vN < 12 by omega) (by omega)) dX12_push_52 ?_
        refine lv_topi (fun y22 hy22 => ?_)
        obtain rfl : ((vF 101) vN) = y22 := (hy22.trans (by rw [nI_clamp (by omega)])).symm
        refine lv_if_le (tgt := 74) hx hb dX12_push_53 (by decide) (fun c9 => False.elim (c_19 c9)) (fun c_53 => ?_)
        have t_53 : ¬ (((vF 101) vN)).toInt ≤ 0 := toI_nle c_53 rfl (by decide)
        refine lv_aload_n hx hb dX12_push_56 rfl (lv_at hl 1 rfl) ?_
        refine va_get (D := (dC, dI)) (ci := 12) (v := .ref (a 97)) (C := RX12) (T := TX12) (N := 163) (fs := fM (vS a vi vj)) hx hb hts iwsRX12_push_in12 hown hK hP 0 rfl rfl 153 (by decide) (hts (.fieldLink RX12 318 "OptimaWorksModel" "arcRoom" "[I") (by decide +kernel)) (fun _ h9 => h9) rfl dX12_push_57 ?_
        refine lv_iload hx hb dX12_push_60 (lv_at hl 0 rfl) ?_
        refine va_iald (cA := k 97) (n := 40) (f := (vF 97)) hx hb hK hP 98 97 (WR_get 97 (by decide)) (TR_get 97 (by decide)) (vp_in_nI (show aN < 40 by omega) (by omega)) dX12_push_62 ?_
        refine lv_topi (fun y23 hy23 => ?_)
        obtain rfl : ((vF 97) aN) = y23 := (hy23.trans (by rw [nI_clamp (by omega)])).symm
        refine lv_aload_n hx hb dX12_push_63 rfl (lv_at hl 1 rfl) ?_
        refine va_get (D := (dC, dI)) (ci := 12) (v := .ref (a 99)) (C := RX12) (T := TX12) (N := 163) (fs := fM (vS a vi vj)) hx hb hts iwsRX12_push_in12 hown hK hP 0 rfl rfl 155 (by decide) (hts _ hm_r_X12_push_1) (fun _ h9 => h9) rfl dX12_push_64 ?_
        refine lv_iload hx hb dX12_push_67 (lv_at hl 0 rfl) ?_
        refine va_iald (cA := k 99) (n := 40) (f := (vF 99)) hx hb hK hP 100 99 (WR_get 99 (by decide)) (TR_get 99 (by decide)) (vp_in_nI (show aN < 40 by omega) (by omega)) dX12_push_69 ?_
        refine lv_topi (fun y24 hy24 => ?_)
        obtain rfl : ((vF 99) aN) = y24 := (hy24.trans (by rw [nI_clamp (by omega)])).symm
        refine lv_isub hx hb dX12_push_70 ?_
        refine lv_goto (tgt := 81) hx hb dX12_push_71 (by decide) ?_
        have hrs : rsd (vF 97) (vF 99) (vF 101 vN) aN = (vF 97 aN).toInt - (vF 99 aN).toInt := by unfold rsd; rw [if_pos (by omega)]
        have hro : (vF 97 aN - vF 99 aN).toInt = rsd (vF 97) (vF 99) (vF 101 vN) aN := by rw [hrs]; exact subB (by omega) (by omega)
        refine lv_istore hx hb dX12_push_81 hl (by decide) rfl (fun ls (hl : lv_has ls _ ([(7, .int (((vF 97) aN) - ((vF 99) aN))), (6, .int (nI aN)), (0, .ref h0), (1, .int (nI sN)), (2, .int (nI tN)), (4, .int nq), (5, .int (nI vN))])) => ?_)
        refine lv_iload hx hb dX12_push_83 (lv_at hl 0 rfl) ?_
        refine lv_iload hx hb dX12_push_85 (lv_at hl 5 rfl) ?_
        refine W.cut (pc := 97) (fun H locs ls stk => ∃ (n2 : Int32), (1 ≤ (n2).toInt ∧ (n2).toInt ≤ (nq).toInt ∧ (n2).toInt ≤ rsd (vF 97) (vF 99) (vF 101 vN) aN) ∧  stk = [.int n2] ∧ va_P (dC, dI) vwCl (WR a k h0 vi vj vF vG) H ∧ va_D A (WR a k h0 vi vj vF vG) ∧ va_S A s.heap H locs ∧ lv_has ls 8 [(7, .int (((vF 97) aN) - ((vF 99) aN))), (6, .int (nI aN)), (0, .ref h0), (1, .int (nI sN)), (2, .int (nI tN)), (4, .int nq), (5, .int (nI vN))]) (fun join2 => ?_) ?_
        · refine lv_icmp_ge (tgt := 95) hx hb dX12_push_87 (by decide) (fun c_87 => ?_) (fun c_87 => ?_)
          · have t_87 : ((((vF 97) aN) - ((vF 99) aN))).toInt ≥ (nq).toInt := toI_ge c_87 rfl rfl
            refine lv_iload hx hb dX12_push_95 (lv_at hl 5 rfl) ?_
            have hl : lv_has _ _ ([(7, .int (((vF 97) aN) - ((vF 99) aN))), (6, .int (nI aN)), (0, .ref h0), (1, .int (nI sN)), (2, .int (nI tN)), (4, .int nq), (5, .int (nI vN))]) := lv_sub hl [0, 1, 2, 3, 4, 5, 6] rfl
            exact join2 _ _ _ _ ⟨nq, by omega, rfl, hP, hD, hS, hl⟩
          · have t_87 : ¬ ((((vF 97) aN) - ((vF 99) aN))).toInt ≥ (nq).toInt := toI_nge c_87 rfl rfl
            refine lv_iload hx hb dX12_push_90 (lv_at hl 0 rfl) ?_
            refine lv_goto (tgt := 97) hx hb dX12_push_92 (by decide) ?_
            have hl : lv_has _ _ ([(7, .int (((vF 97) aN) - ((vF 99) aN))), (6, .int (nI aN)), (0, .ref h0), (1, .int (nI sN)), (2, .int (nI tN)), (4, .int nq), (5, .int (nI vN))]) := lv_sub hl [0, 1, 2, 3, 4, 5, 6] rfl
            exact join2 _ _ _ _ ⟨(((vF 97) aN) - ((vF 99) aN)), by omega, rfl, hP, hD, hS, hl⟩
        · rintro H locs ls stk ⟨n2, hn2, rfl, hP, hD, hS, hl⟩
          refine lv_istore hx hb dX12_push_97 hl (by decide) rfl (fun ls (hl : lv_has ls _ ([(4, .int n2), (7, .int (((vF 97) aN) - ((vF 99) aN))), (6, .int (nI aN)), (0, .ref h0), (1, .int (nI sN)), (2, .int (nI tN)), (5, .int (nI vN))])) => ?_)
          refine lv_aload_n hx hb dX12_push_99 rfl (lv_at hl 3 rfl) ?_
          refine va_get (D := (dC, dI)) (ci := 12) (v := .ref (a 101)) (C := RX12) (T := TX12) (N := 163) (fs := fM (vS a vi vj)) hx hb hts iwsRX12_push_in12 hown hK hP 0 rfl rfl 157 (by decide) (hts _ hm_r_X12_push_0) (fun _ h9 => h9) rfl dX12_push_100 ?_
          refine lv_iload hx hb dX12_push_103 (lv_at hl 6 rfl) ?_
          refine va_iald (cA := k 101) (n := 12) (f := (vF 101)) hx hb hK hP 102 101 (WR_get 101 (by decide)) (TR_get 101 (by decide)) (vp_in_nI (show vN < 12 by omega) (by omega)) dX12_push_105 ?_
          refine lv_topi (fun y25 hy25 => ?_)
          obtain rfl : ((vF 101) vN) = y25 := (hy25.trans (by rw [nI_clamp (by omega)])).symm
          refine lv_if_le (tgt := 119) hx hb dX12_push_106 (by decide) (fun c9 => False.elim (c_19 c9)) (fun c_106 => ?_)
          have t_106 : ¬ (((vF 101) vN)).toInt ≤ 0 := toI_nle c_106 rfl (by decide)
          refine lv_aload_n hx hb dX12_push_109 rfl (lv_at hl 3 rfl) ?_
          refine va_get (D := (dC, dI)) (ci := 12) (v := .ref (a 95)) (C := RX12) (T := TX12) (N := 163) (fs := fM (vS a vi vj)) hx hb hts iwsRX12_push_in12 hown hK hP 0 rfl rfl 151 (by decide) (hts _ hm_r_X12_push_3) (fun _ h9 => h9) rfl dX12_push_110 ?_
          refine lv_iload hx hb dX12_push_113 (lv_at hl 2 rfl) ?_
          refine va_iald (cA := k 95) (n := 40) (f := (vF 95)) hx hb hK hP 96 95 (WR_get 95 (by decide)) (TR_get 95 (by decide)) (vp_in_nI (show aN < 40 by omega) (by omega)) dX12_push_115 ?_
          refine lv_topi (fun y26 hy26 => ?_)
          obtain rfl : ((vF 95) aN) = y26 := (hy26.trans (by rw [nI_clamp (by omega)])).symm
          refine lv_topi (fun y27 hy27 => ?_)
          obtain rfl : (nI uN) = y27 := (hy27.trans (hb2)).symm
          refine lv_goto (tgt := 126) hx hb dX12_push_116 (by decide) ?_
          refine lv_istore hx hb dX12_push_126 hl (by decide) rfl (fun ls (hl : lv_has ls _ ([(5, .int (nI uN)), (4, .int n2), (7, .int (((vF 97) aN) - ((vF 99) aN))), (6, .int (nI aN)), (0, .ref h0), (1, .int (nI sN)), (2, .int (nI tN))])) => ?_)
          refine lv_goto (tgt := 6) hx hb dX12_push_128 (by decide) ?_
          have hl : lv_has _ _ ([(0, .ref h0), (1, .int (nI sN)), (2, .int (nI tN)), (4, .int n2), (5, .int (nI uN))]) := lv_sub hl [4, 5, 6, 1, 0] rfl
          exact ih6 n2 uN (fun w => V w ∨ w = vN) _ _ _ (hu12) (hul) (by omega) (by rcases hVt0 with h9 | h9; (exact Or.inl (Or.inl h9)); (exact Or.inl (Or.inr h9.symm))) (hVs.next hv12 hvl hvs hu12 hLk hrk (by omega) (by omega)) (by omega) hP hD hS hl
end
section
theorem subN {x : Int32} {n : Nat} (h : (n : Int) ≤ x.toInt) : (x - nI n).toInt = x.toInt - (n : Int) := by
  have h1 := Int32.toInt_lt x
  rw [Int32.toInt_sub, nI_toInt (by omega)]
  exact Int.bmod_eq_of_le (by omega) (by omega)
theorem bneg {a : Nat} (ha : a < 100) : (-(nI a) - 1).toInt = -((a : Int) + 1) := by
  have h1 := (neg32 (x := nI a) (b := 100) (by rw [nI_toInt (by omega)]; omega) (by decide)).2
  rw [subB (by rw [h1, nI_toInt (by omega)]; omega) (by decide), h1, nI_toInt (by omega)]
  have : (1 : Int32).toInt = 1 := by decide
  omega
theorem BfI.init {f95 f96 f97 f98 f99 : Nat → Int32} {ar sN : Nat} {R : Nat → Prop} {p : Nat → Int} {pr bY : Nat → Int32} (hs : sN < 12) (hR : R sN) (hp : p sN = 0) (h : ∀ n, n < 12 → pr n = if n = sN then 0 else 536870912) : BfI f95 f96 f97 f98 f99 ar sN R p pr bY (fun _ => 0) 0 := by
  have h0 : (0 : Int32).toInt = 0 := by decide
  refine ⟨⟨by rw [h sN hs, if_pos rfl]; exact h0, fun v hv => ?_⟩, fun w hw hwl => Or.inl ?_, fun _ => Nat.le_refl _⟩
  · by_cases e : v = sN
    · subst e; exact Or.inr ⟨hR, by rw [h v hv, if_pos rfl, h0, hp]; exact Int.le_refl _, by rw [h v hv, if_pos rfl, h0]; omega⟩
    · exact Or.inl (by rw [h v hv, if_neg e])
  · by_cases e : w = sN
    · exact e
    · exact absurd (by rw [h w hw, if_neg e]) hwl
theorem PoO.init {f95 f96 f97 f98 f99 : Nat → Int32} {ar : Nat} (hA : ArO f95 f96 f97 f98 ar) (h : ∀ a, a < ar → f99 a = 0) : PoO f95 f96 f97 f98 f99 ar (fun _ => True) (fun _ => 0) := fun a x y ha _ _ _ _ => by
  obtain ⟨x', y', a1, a2, a3, a4, a5, a6, a7⟩ := hA a ha
  have h0 : (0 : Int32).toInt = 0 := by decide
  refine ⟨fun _ _ => ⟨trivial, by show (0 : Int) ≤ 0 + (f98 a).toInt; omega⟩, fun h9 _ => ?_⟩
  rw [h a ha, h0] at h9; omega
theorem FlO.init {f95 f96 f97 f98 f99 : Nat → Int32} {ar : Nat} (hA : ArO f95 f96 f97 f98 ar) (h : ∀ a, a < ar → f99 a = 0) : FlO f97 f99 ar := fun a ha => by
  obtain ⟨x', y', a1, a2, a3, a4, a5, a6, a7⟩ := hA a ha
  have h0 : (0 : Int32).toInt = 0 := by decide
  rw [h a ha, h0]; omega
end
section
theorem hd_yX12_push_RX12 : yX12_push.cls = RX12 ∧ yX12_push.cls ≠ "java/lang/invoke/MethodHandle" ∧ yX12_push.cls ≠ "java/lang/invoke/VarHandle" ∧ (parseMethodDescriptor yX12_push.desc).map (fun d => d.parameters.length) = some 3 := by decide +kernel
theorem hd_yX12_relax_RX12 : yX12_relax.cls = RX12 ∧ yX12_relax.cls ≠ "java/lang/invoke/MethodHandle" ∧ yX12_relax.cls ≠ "java/lang/invoke/VarHandle" ∧ (parseMethodDescriptor yX12_relax.desc).map (fun d => d.parameters.length) = some 4 := by decide +kernel
theorem dX12_relax_0 : decode cX12_relax 0 = .ok (.aload_n 0, 1) := dk_42 (by decide +kernel)
theorem dX12_relax_1 : decode cX12_relax 1 = .ok (.getfield 327, 3) := dk_180 (by decide +kernel)
theorem dX12_relax_4 : decode cX12_relax 4 = .ok (.iload_n 1, 1) := dk_27 (by decide +kernel)
theorem dX12_relax_5 : decode cX12_relax 5 = .ok (.iaload, 1) := dk_46 (by decide +kernel)
theorem dX12_relax_6 : decode cX12_relax 6 = .ok (.ldc_w 1072, 3) := dk_19 (by decide +kernel)
theorem dX12_relax_9 : decode cX12_relax 9 = .ok (.if_icmp .eq 20, 3) := dk_159 (by decide +kernel)
theorem dX12_relax_12 : decode cX12_relax 12 = .ok (.aload_n 0, 1) := dk_42 (by decide +kernel)
theorem dX12_relax_13 : decode cX12_relax 13 = .ok (.getfield 327, 3) := dk_180 (by decide +kernel)
theorem dX12_relax_16 : decode cX12_relax 16 = .ok (.iload_n 1, 1) := dk_27 (by decide +kernel)
theorem dX12_relax_17 : decode cX12_relax 17 = .ok (.iaload, 1) := dk_46 (by decide +kernel)
theorem dX12_relax_18 : decode cX12_relax 18 = .ok (.iload_n 3, 1) := dk_29 (by decide +kernel)
theorem dX12_relax_19 : decode cX12_relax 19 = .ok (.iadd, 1) := dk_96 (by decide +kernel)
theorem dX12_relax_20 : decode cX12_relax 20 = .ok (.aload_n 0, 1) := dk_42 (by decide +kernel)
theorem dX12_relax_21 : decode cX12_relax 21 = .ok (.getfield 327, 3) := dk_180 (by decide +kernel)
theorem dX12_relax_24 : decode cX12_relax 24 = .ok (.iload_n 2, 1) := dk_28 (by decide +kernel)
theorem dX12_relax_25 : decode cX12_relax 25 = .ok (.iaload, 1) := dk_46 (by decide +kernel)
theorem dX12_relax_26 : decode cX12_relax 26 = .ok (.if_icmp .lt 5, 3) := dk_161 (by decide +kernel)
theorem dX12_relax_29 : decode cX12_relax 29 = .ok (.iconst 0, 1) := dk_3 (by decide +kernel)
theorem dX12_relax_30 : decode cX12_relax 30 = .ok (.ireturn, 1) := dk_172 (by decide +kernel)
theorem dX12_relax_31 : decode cX12_relax 31 = .ok (.aload_n 0, 1) := dk_42 (by decide +kernel)
theorem dX12_relax_32 : decode cX12_relax 32 = .ok (.getfield 327, 3) := dk_180 (by decide +kernel)
theorem dX12_relax_35 : decode cX12_relax 35 = .ok (.iload_n 2, 1) := dk_28 (by decide +kernel)
theorem dX12_relax_36 : decode cX12_relax 36 = .ok (.aload_n 0, 1) := dk_42 (by decide +kernel)
theorem dX12_relax_37 : decode cX12_relax 37 = .ok (.getfield 327, 3) := dk_180 (by decide +kernel)
theorem dX12_relax_40 : decode cX12_relax 40 = .ok (.iload_n 1, 1) := dk_27 (by decide +kernel)
theorem dX12_relax_41 : decode cX12_relax 41 = .ok (.iaload, 1) := dk_46 (by decide +kernel)
theorem dX12_relax_42 : decode cX12_relax 42 = .ok (.iload_n 3, 1) := dk_29 (by decide +kernel)
theorem dX12_relax_43 : decode cX12_relax 43 = .ok (.iadd, 1) := dk_96 (by decide +kernel)
theorem dX12_relax_44 : decode cX12_relax 44 = .ok (.iastore, 1) := dk_79 (by decide +kernel)
theorem dX12_relax_45 : decode cX12_relax 45 = .ok (.aload_n 0, 1) := dk_42 (by decide +kernel)
theorem dX12_relax_46 : decode cX12_relax 46 = .ok (.getfield 330, 3) := dk_180 (by decide +kernel)
theorem dX12_relax_49 : decode cX12_relax 49 = .ok (.iload_n 2, 1) := dk_28 (by decide +kernel)
theorem dX12_relax_50 : decode cX12_relax 50 = .ok (.iload 4, 2) := dk_21 (by decide +kernel)
theorem dX12_relax_52 : decode cX12_relax 52 = .ok (.iastore, 1) := dk_79 (by decide +kernel)
theorem dX12_relax_53 : decode cX12_relax 53 = .ok (.iconst 1, 1) := dk_4 (by decide +kernel)
theorem dX12_relax_54 : decode cX12_relax 54 = .ok (.ireturn, 1) := dk_172 (by decide +kernel)
def wsRX12_relax : List Cond := .code yX12_relax cX12_relax 5 (some .boolean) :: ([.fieldLink RX12 327 "OptimaWorksModel" "price" "[I", .constant RX12 1072 536870912, .fieldLink RX12 330 "OptimaWorksModel" "by" "[I"] ++ wsX120)
theorem iwsRX12_relax_in12 : ∀ w ∈ wsX120, w ∈ wsRX12_relax := fun _ h => List.mem_cons_of_mem _ (List.mem_append_right _ h)
theorem gdwsRX12_relax : wsRX12_relax.all goodWord = true := gdC rfl (gdA (by decide +kernel : ([.fieldLink RX12 327 "OptimaWorksModel" "price" "[I", .constant RX12 1072 536870912, .fieldLink RX12 330 "OptimaWorksModel" "by" "[I"] : List Cond).all goodWord = true) gdwsX120)
theorem hm_r_X12_relax_0 : (.fieldLink RX12 327 "OptimaWorksModel" "price" "[I" : Cond) ∈ wsRX12_relax := by decide +kernel
set_option maxHeartbeats 4000000 in
set_option maxRecDepth 100000 in
/-- relax(from, to, c, arc) -/
theorem r_X12_relax (l : Launch) (dC : Nat → ClassId) (dI : Nat → Nat → Nat) (a : Nat → Nat) (k : Nat → ClassId) (h0 : Nat) (vi : Nat → Int32) (vj : Nat → Int64) (vF : Nat → Nat → Int32) (vG : Nat → Nat → Int64) (uN : Nat) (vN : Nat) (cI : Int32) (bI : Int32) (hu12 : uN < 12) (hv12 : vN < 12) (hbu : 0 ≤ (vF 100 uN).toInt ∧ (vF 100 uN).toInt ≤ 536870912) (hbv : 0 ≤ (vF 100 vN).toInt ∧ (vF 100 vN).toInt ≤ 536870912) (hcI : -1000 ≤ (cI).toInt ∧ (cI).toInt ≤ 1000) (sz : Nat) : Met l yX12_relax wsRX12_relax ({ frames := 0, cells := 0, slots := 0, locals := 0 }) (va_Pc [.ref h0, .int (nI uN), .int (nI vN), .int cI, .int bI] (fun U => U.heap.size = sz ∧ va_P (dC, dI) vwCl (WR a k h0 vi vj vF vG) U.heap ∧ va_K (dC, dI) vwCl (tX12 k) U ∧ va_D (fun _ => True) (WR a k h0 vi vj vF vG))) (va_Qi (fun (r : Int32) (u : (Nat → Int32) × (Nat → Int32)) => (r = 1 ∧ (vF 100 uN ≠ 536870912) ∧ ((vF 100 uN).toInt + (cI).toInt < (vF 100 vN).toInt) ∧ (((u.1) vN).toInt = (vF 100 uN).toInt + (cI).toInt) ∧ (∀ w, w ≠ vN → (u.1) w = vF 100 w) ∧ ((u.2) vN = bI) ∧ (∀ w, w ≠ vN → (u.2) w = vF 101 w)) ∨ (r = 0 ∧ ((u.1) = vF 100) ∧ ((u.2) = vF 101) ∧ (vF 100 uN ≠ 536870912 → (vF 100 vN).toInt ≤ (vF 100 uN).toInt + (cI).toInt))) (fun (u : (Nat → Int32) × (Nat → Int32)) t => va_P (dC, dI) vwCl (WR a k h0 vi vj (fT (fT vF 100 (u.1)) 101 (u.2)) vG) t.heap ∧ va_D (va_A (WR a k h0 vi vj vF vG) sz) (WR a k h0 vi vj (fT (fT vF 100 (u.1)) 101 (u.2)) vG)) (va_A (WR a k h0 vi vj vF vG) sz)) 0 0 (va_A (WR a k h0 vi vj vF vG) sz) := by
  refine Met.ofW (cc := cX12_relax) (maxL := 5) (ret := (some .boolean)) (by decide) rfl ?_
  intro p e s m args below meth c s₁ B hml hv
  obtain ⟨rfl, hsz, hP, hK, hD0⟩ := hv
  have hx := B.exec
  have hb := B.bytes
  have hr := B.returns
  have hts := atoms_spec (ws := wsRX12_relax) B.pre
  have hown : s.vm.findClass RX12 = some m.cls := findClass_of_methodNamed B.named
  have hlocks := B.notSynchronized
  subst hsz
  have hD := hD0.self (sz := s.heap.size)
  generalize hAe : va_A (WR a k h0 vi vj vF vG) s.heap.size = A at hD ⊢
  have hA : ∀ q : Nat, s.heap.size ≤ q → A q := fun q h => by rw [← hAe]; exact Or.inr h
  have hS : va_S A s.heap s.heap [] := va_S.rf
  have hl := lv_entry ([.ref h0, .int (nI uN), .int (nI vN), .int cI, .int bI]) (n := 5) (Nat.le_of_ble_eq_true rfl)
  rw [lg_entry_eq]
  generalize (lg_sl ([.ref h0, .int (nI uN), .int (nI vN), .int cI, .int bI]) ++ List.replicate (5 - (lg_sl ([.ref h0, .int (nI uN), .int (nI vN), .int cI, .int bI])).length) Slot.unset).toArray = ls at hl ⊢
  have hl : lv_has ls 5 [(0, .ref h0), (1, .int (nI uN)), (2, .int (nI vN)), (3, .int cI), (4, .int bI)] := hl
  have ead : ((vF 100 uN) + cI).toInt = (vF 100 uN).toInt + (cI).toInt := addB (by omega) (by omega)
  refine lv_aload_n hx hb dX12_relax_0 rfl (lv_at hl 0 rfl) ?_
  refine va_get (D := (dC, dI)) (ci := 12) (v := .ref (a 100)) (C := RX12) (T := TX12) (N := 163) (fs := fM (vS a vi vj)) hx hb hts iwsRX12_relax_in12 hown hK hP 0 rfl rfl 156 (by decide) (hts _ hm_r_X12_relax_0) (fun _ h9 => h9) rfl dX12_relax_1 ?_
  refine lv_iload_n hx hb dX12_relax_4 rfl (lv_at hl 1 rfl) ?_
  refine va_iald (cA := k 100) (n := 12) (f := (vF 100)) hx hb hK hP 101 100 (WR_get 100 (by decide)) (TR_get 100 (by decide)) (vp_in_nI (show uN < 12 by omega) (by omega)) dX12_relax_5 ?_
  refine lv_topi (fun y1 hy1 => ?_)
  obtain rfl : ((vF 100) uN) = y1 := (hy1.trans (by rw [nI_clamp (by omega)])).symm
  refine lv_ldcw (v := 536870912) hx hb hown (hts (.constant RX12 1072 536870912) (by decide +kernel)) dX12_relax_6 ?_
  refine lv_icmp_eq (tgt := 29) hx hb dX12_relax_9 (by decide) (fun c_9 => ?_) (fun c_9 => ?_)
  · have t_9 : (((vF 100) uN)).toInt = 536870912 := toI_eq c_9 rfl (by decide)
    refine lv_iconst (v := 0) hx hb dX12_relax_29 (by decide) ?_
    refine W.widen (k := 0) (n := 0) (by decide +kernel) (by decide +kernel) ?_
    have e9 : fT (fT vF 100 (vF 100)) 101 (vF 101) = vF := (fT_id _ _ (fT_ne _ _ (Nat.ne_of_beq_eq_false rfl))).trans (fT_id _ _ (rfl))
    have hP := wr_PF e9 hP
    have hD := wr_DF e9 hD
    clear e9
    exact W.zret (v := 0) hx hb hr rfl (fun t9_ ht hW => ⟨⟨0, ((vF 100), (vF 101)), rfl, by (try dsimp only); exact Or.inr ⟨rfl, rfl, rfl, fun h9 => absurd c_9 h9⟩, by rw [ht]; exact hP, hD⟩, hS.F ht⟩) hS.2.2 dX12_relax_30
  · have t_9 : ¬ (((vF 100) uN)).toInt = 536870912 := toI_neq c_9 rfl (by decide)
    refine lv_aload_n hx hb dX12_relax_12 rfl (lv_at hl 0 rfl) ?_
    refine va_get (D := (dC, dI)) (ci := 12) (v := .ref (a 100)) (C := RX12) (T := TX12) (N := 163) (fs := fM (vS a vi vj)) hx hb hts iwsRX12_relax_in12 hown hK hP 0 rfl rfl 156 (by decide) (hts _ hm_r_X12_relax_0) (fun _ h9 => h9) rfl dX12_relax_13 ?_
    refine lv_iload_n hx hb dX12_relax_16 rfl (lv_at hl 1 rfl) ?_
    refine va_iald (cA := k 100) (n := 12) (f := (vF 100)) hx hb hK hP 101 100 (WR_get 100 (by decide)) (TR_get 100 (by decide)) (vp_in_nI (show uN < 12 by omega) (by omega)) dX12_relax_17 ?_
    refine lv_topi (fun y2 hy2 => ?_)
    obtain rfl : ((vF 100) uN) = y2 := (hy2.trans (by rw [nI_clamp (by omega)])).symm
    refine lv_iload_n hx hb dX12_relax_18 rfl (lv_at hl 3 rfl) ?_
    refine lv_iadd hx hb dX12_relax_19 ?_
    refine lv_aload_n hx hb dX12_relax_20 rfl (lv_at hl 0 rfl) ?_
    refine va_get (D := (dC, dI)) (ci := 12) (v := .ref (a 100)) (C := RX12) (T := TX12) (N := 163) (fs := fM (vS a vi vj)) hx hb hts iwsRX12_relax_in12 hown hK hP 0 rfl rfl 156 (by decide) (hts _ hm_r_X12_relax_0) (fun _ h9 => h9) rfl dX12_relax_21 ?_
    refine lv_iload_n hx hb dX12_relax_24 rfl (lv_at hl 2 rfl) ?_
    refine va_iald (cA := k 100) (n := 12) (f := (vF 100)) hx hb hK hP 101 100 (WR_get 100 (by decide)) (TR_get 100 (by decide)) (vp_in_nI (show vN < 12 by omega) (by omega)) dX12_relax_25 ?_
    refine lv_topi (fun y3 hy3 => ?_)
    obtain rfl : ((vF 100) vN) = y3 := (hy3.trans (by rw [nI_clamp (by omega)])).symm
    refine lv_icmp_lt (tgt := 31) hx hb dX12_relax_26 (by decide) (fun c_26 => ?_) (fun c_26 => ?_)
    · have t_26 : ((((vF 100) uN) + cI)).toInt < (((vF 100) vN)).toInt := toI_lt c_26 rfl rfl
      refine lv_aload_n hx hb dX12_relax_31 rfl (lv_at hl 0 rfl) ?_
      refine va_get (D := (dC, dI)) (ci := 12) (v := .ref (a 100)) (C := RX12) (T := TX12) (N := 163) (fs := fM (vS a vi vj)) hx hb hts iwsRX12_relax_in12 hown hK hP 0 rfl rfl 156 (by decide) (hts _ hm_r_X12_relax_0) (fun _ h9 => h9) rfl dX12_relax_32 ?_
      refine lv_iload_n hx hb dX12_relax_35 rfl (lv_at hl 2 rfl) ?_
      refine lv_aload_n hx hb dX12_relax_36 rfl (lv_at hl 0 rfl) ?_
      refine va_get (D := (dC, dI)) (ci := 12) (v := .ref (a 100)) (C := RX12) (T := TX12) (N := 163) (fs := fM (vS a vi vj)) hx hb hts iwsRX12_relax_in12 hown hK hP 0 rfl rfl 156 (by decide) (hts _ hm_r_X12_relax_0) (fun _ h9 => h9) rfl dX12_relax_37 ?_
      refine lv_iload_n hx hb dX12_relax_40 rfl (lv_at hl 1 rfl) ?_
      refine va_iald (cA := k 100) (n := 12) (f := (vF 100)) hx hb hK hP 101 100 (WR_get 100 (by decide)) (TR_get 100 (by decide)) (vp_in_nI (show uN < 12 by omega) (by omega)) dX12_relax_41 ?_
      refine lv_topi (fun y4 hy4 => ?_)
      obtain rfl : ((vF 100) uN) = y4 := (hy4.trans (by rw [nI_clamp (by omega)])).symm
      refine lv_iload_n hx hb dX12_relax_42 rfl (lv_at hl 3 rfl) ?_
      refine lv_iadd hx hb dX12_relax_43 ?_
      refine va_iast (cA := k 100) (n := 12) (f := (vF 100)) hx hb hK hP hD hS 101 100 (WR_get 100 (by decide)) (TR_get 100 (by decide)) (vp_in_nI (show vN < 12 by omega) (by omega)) dX12_relax_44 (fun H locs hP hD hS => ?_)
      have hP : va_P (dC, dI) vwCl (WR a k h0 vi vj (fT vF 100 (upd (vF 100) ((nI vN)).toNatClampNeg (((vF 100) uN) + cI))) vG) H := fz_w (WR_F 100 (by decide) _ rfl) hP
      have hD : va_D A (WR a k h0 vi vj (fT vF 100 (upd (vF 100) ((nI vN)).toNatClampNeg (((vF 100) uN) + cI))) vG) := fz_wD (WR_F 100 (by decide) _ rfl) hD
      refine lv_aload_n hx hb dX12_relax_45 rfl (lv_at hl 0 rfl) ?_
      refine va_get (D := (dC, dI)) (ci := 12) (v := .ref (a 101)) (C := RX12) (T := TX12) (N := 163) (fs := fM (vS a vi vj)) hx hb hts iwsRX12_relax_in12 hown hK hP 0 rfl rfl 157 (by decide) (hts (.fieldLink RX12 330 "OptimaWorksModel" "by" "[I") (by decide +kernel)) (fun _ h9 => h9) rfl dX12_relax_46 ?_
      refine lv_iload_n hx hb dX12_relax_49 rfl (lv_at hl 2 rfl) ?_
      refine lv_iload hx hb dX12_relax_50 (lv_at hl 4 rfl) ?_
      refine va_iast (cA := k 101) (n := 12) (f := (vF 101)) hx hb hK hP hD hS 102 101 (WR_get 101 (by decide)) (TR_get 101 (by decide)) (vp_in_nI (show vN < 12 by omega) (by omega)) dX12_relax_52 (fun H locs hP hD hS => ?_)
      have hP : va_P (dC, dI) vwCl (WR a k h0 vi vj (fT (fT vF 100 (upd (vF 100) ((nI vN)).toNatClampNeg (((vF 100) uN) + cI))) 101 (upd (vF 101) ((nI vN)).toNatClampNeg bI)) vG) H := fz_w (WR_F 101 (by decide) _ rfl) hP
      have hD : va_D A (WR a k h0 vi vj (fT (fT vF 100 (upd (vF 100) ((nI vN)).toNatClampNeg (((vF 100) uN) + cI))) 101 (upd (vF 101) ((nI vN)).toNatClampNeg bI)) vG) := fz_wD (WR_F 101 (by decide) _ rfl) hD
      refine lv_iconst (v := 1) hx hb dX12_relax_53 (by decide) ?_
      refine W.widen (k := 0) (n := 0) (by decide +kernel) (by decide +kernel) ?_
      exact W.zret (v := 1) hx hb hr rfl (fun t9_ ht hW => ⟨⟨1, ((upd (vF 100) ((nI vN)).toNatClampNeg (((vF 100) uN) + cI)), (upd (vF 101) ((nI vN)).toNatClampNeg bI)), rfl, by (try dsimp only); exact Or.inl ⟨rfl, c_9, by omega, by rw [upd_at (by omega), if_pos rfl]; exact ead, fun w hw => by rw [upd_at (by omega), if_neg hw], by rw [upd_at (by omega), if_pos rfl], fun w hw => by rw [upd_at (by omega), if_neg hw]⟩, by rw [ht]; exact hP, hD⟩, hS.F ht⟩) hS.2.2 dX12_relax_54
    · have t_26 : ¬ ((((vF 100) uN) + cI)).toInt < (((vF 100) vN)).toInt := toI_nlt c_26 rfl rfl
      refine lv_iconst (v := 0) hx hb dX12_relax_29 (by decide) ?_
      refine W.widen (k := 0) (n := 0) (by decide +kernel) (by decide +kernel) ?_
      have e9 : fT (fT vF 100 (vF 100)) 101 (vF 101) = vF := (fT_id _ _ (fT_ne _ _ (Nat.ne_of_beq_eq_false rfl))).trans (fT_id _ _ (rfl))
      have hP := wr_PF e9 hP
      have hD := wr_DF e9 hD
      clear e9
      exact W.zret (v := 0) hx hb hr rfl (fun t9_ ht hW => ⟨⟨0, ((vF 100), (vF 101)), rfl, by (try dsimp only); exact Or.inr ⟨rfl, rfl, rfl, fun _ => by omega⟩, by rw [ht]; exact hP, hD⟩, hS.F ht⟩) hS.2.2 dX12_relax_30
theorem dX12_send_0 : decode cX12_send 0 = .ok (.iconst 0, 1) := dk_3 (by decide +kernel)
theorem dX12_send_1 : decode cX12_send 1 = .ok (.istore 4, 2) := dk_54 (by decide +kernel)
theorem dX12_send_3 : decode cX12_send 3 = .ok (.iload 4, 2) := dk_21 (by decide +kernel)
theorem dX12_send_5 : decode cX12_send 5 = .ok (.aload_n 0, 1) := dk_42 (by decide +kernel)
theorem dX12_send_6 : decode cX12_send 6 = .ok (.getfield 1069, 3) := dk_180 (by decide +kernel)
theorem dX12_send_9 : decode cX12_send 9 = .ok (.if_icmp .ge 17, 3) := dk_162 (by decide +kernel)
theorem dX12_send_12 : decode cX12_send 12 = .ok (.aload_n 0, 1) := dk_42 (by decide +kernel)
theorem dX12_send_13 : decode cX12_send 13 = .ok (.getfield 324, 3) := dk_180 (by decide +kernel)
theorem dX12_send_16 : decode cX12_send 16 = .ok (.iload 4, 2) := dk_21 (by decide +kernel)
theorem dX12_send_18 : decode cX12_send 18 = .ok (.iconst 0, 1) := dk_3 (by decide +kernel)
theorem dX12_send_19 : decode cX12_send 19 = .ok (.iastore, 1) := dk_79 (by decide +kernel)
theorem dX12_send_20 : decode cX12_send 20 = .ok (.iinc 4 1, 3) := dk_132 (by decide +kernel)
theorem dX12_send_23 : decode cX12_send 23 = .ok (.goto (-20), 3) := dk_167 (by decide +kernel)
theorem dX12_send_26 : decode cX12_send 26 = .ok (.iconst 0, 1) := dk_3 (by decide +kernel)
theorem dX12_send_27 : decode cX12_send 27 = .ok (.istore 4, 2) := dk_54 (by decide +kernel)
theorem dX12_send_29 : decode cX12_send 29 = .ok (.iconst 1, 1) := dk_4 (by decide +kernel)
theorem dX12_send_30 : decode cX12_send 30 = .ok (.istore 5, 2) := dk_54 (by decide +kernel)
theorem dX12_send_32 : decode cX12_send 32 = .ok (.iload 5, 2) := dk_21 (by decide +kernel)
theorem dX12_send_34 : decode cX12_send 34 = .ok (.ifCond .eq 236, 3) := dk_153 (by decide +kernel)
theorem dX12_send_37 : decode cX12_send 37 = .ok (.iload 4, 2) := dk_21 (by decide +kernel)
theorem dX12_send_39 : decode cX12_send 39 = .ok (.iload_n 3, 1) := dk_29 (by decide +kernel)
theorem dX12_send_40 : decode cX12_send 40 = .ok (.if_icmp .ge 230, 3) := dk_162 (by decide +kernel)
theorem dX12_send_43 : decode cX12_send 43 = .ok (.iconst 0, 1) := dk_3 (by decide +kernel)
theorem dX12_send_44 : decode cX12_send 44 = .ok (.istore 6, 2) := dk_54 (by decide +kernel)
theorem dX12_send_46 : decode cX12_send 46 = .ok (.iload 6, 2) := dk_21 (by decide +kernel)
theorem dX12_send_48 : decode cX12_send 48 = .ok (.bipush 12, 2) := dk_16 (by decide +kernel)
theorem dX12_send_50 : decode cX12_send 50 = .ok (.if_icmp .ge 29, 3) := dk_162 (by decide +kernel)
theorem dX12_send_53 : decode cX12_send 53 = .ok (.aload_n 0, 1) := dk_42 (by decide +kernel)
theorem dX12_send_54 : decode cX12_send 54 = .ok (.getfield 327, 3) := dk_180 (by decide +kernel)
theorem dX12_send_57 : decode cX12_send 57 = .ok (.iload 6, 2) := dk_21 (by decide +kernel)
theorem dX12_send_59 : decode cX12_send 59 = .ok (.iload 6, 2) := dk_21 (by decide +kernel)
theorem dX12_send_61 : decode cX12_send 61 = .ok (.iload_n 1, 1) := dk_27 (by decide +kernel)
theorem dX12_send_62 : decode cX12_send 62 = .ok (.if_icmp .ne 7, 3) := dk_160 (by decide +kernel)
theorem dX12_send_65 : decode cX12_send 65 = .ok (.iconst 0, 1) := dk_3 (by decide +kernel)
theorem dX12_send_66 : decode cX12_send 66 = .ok (.goto 6, 3) := dk_167 (by decide +kernel)
theorem dX12_send_69 : decode cX12_send 69 = .ok (.ldc_w 1072, 3) := dk_19 (by decide +kernel)
theorem dX12_send_72 : decode cX12_send 72 = .ok (.iastore, 1) := dk_79 (by decide +kernel)
theorem dX12_send_73 : decode cX12_send 73 = .ok (.iinc 6 1, 3) := dk_132 (by decide +kernel)
theorem dX12_send_76 : decode cX12_send 76 = .ok (.goto (-30), 3) := dk_167 (by decide +kernel)
theorem dX12_send_79 : decode cX12_send 79 = .ok (.iconst 1, 1) := dk_4 (by decide +kernel)
theorem dX12_send_80 : decode cX12_send 80 = .ok (.istore 6, 2) := dk_54 (by decide +kernel)
theorem dX12_send_82 : decode cX12_send 82 = .ok (.iload 6, 2) := dk_21 (by decide +kernel)
theorem dX12_send_84 : decode cX12_send 84 = .ok (.ifCond .eq 144, 3) := dk_153 (by decide +kernel)
theorem dX12_send_87 : decode cX12_send 87 = .ok (.iconst 0, 1) := dk_3 (by decide +kernel)
theorem dX12_send_88 : decode cX12_send 88 = .ok (.istore 6, 2) := dk_54 (by decide +kernel)
theorem dX12_send_90 : decode cX12_send 90 = .ok (.iconst 0, 1) := dk_3 (by decide +kernel)
theorem dX12_send_91 : decode cX12_send 91 = .ok (.istore 7, 2) := dk_54 (by decide +kernel)
theorem dX12_send_93 : decode cX12_send 93 = .ok (.iload 7, 2) := dk_21 (by decide +kernel)
theorem dX12_send_95 : decode cX12_send 95 = .ok (.aload_n 0, 1) := dk_42 (by decide +kernel)
theorem dX12_send_96 : decode cX12_send 96 = .ok (.getfield 1069, 3) := dk_180 (by decide +kernel)
theorem dX12_send_99 : decode cX12_send 99 = .ok (.if_icmp .ge 126, 3) := dk_162 (by decide +kernel)
theorem dX12_send_102 : decode cX12_send 102 = .ok (.aload_n 0, 1) := dk_42 (by decide +kernel)
theorem dX12_send_103 : decode cX12_send 103 = .ok (.getfield 324, 3) := dk_180 (by decide +kernel)
theorem dX12_send_106 : decode cX12_send 106 = .ok (.iload 7, 2) := dk_21 (by decide +kernel)
theorem dX12_send_108 : decode cX12_send 108 = .ok (.iaload, 1) := dk_46 (by decide +kernel)
theorem dX12_send_109 : decode cX12_send 109 = .ok (.aload_n 0, 1) := dk_42 (by decide +kernel)
theorem dX12_send_110 : decode cX12_send 110 = .ok (.getfield 318, 3) := dk_180 (by decide +kernel)
theorem dX12_send_113 : decode cX12_send 113 = .ok (.iload 7, 2) := dk_21 (by decide +kernel)
theorem dX12_send_115 : decode cX12_send 115 = .ok (.iaload, 1) := dk_46 (by decide +kernel)
theorem dX12_send_116 : decode cX12_send 116 = .ok (.if_icmp .ge 47, 3) := dk_162 (by decide +kernel)
theorem dX12_send_119 : decode cX12_send 119 = .ok (.aload_n 0, 1) := dk_42 (by decide +kernel)
theorem dX12_send_120 : decode cX12_send 120 = .ok (.aload_n 0, 1) := dk_42 (by decide +kernel)
theorem dX12_send_121 : decode cX12_send 121 = .ok (.getfield 312, 3) := dk_180 (by decide +kernel)
theorem dX12_send_124 : decode cX12_send 124 = .ok (.iload 7, 2) := dk_21 (by decide +kernel)
theorem dX12_send_126 : decode cX12_send 126 = .ok (.iaload, 1) := dk_46 (by decide +kernel)
theorem dX12_send_127 : decode cX12_send 127 = .ok (.aload_n 0, 1) := dk_42 (by decide +kernel)
theorem dX12_send_128 : decode cX12_send 128 = .ok (.getfield 315, 3) := dk_180 (by decide +kernel)
theorem dX12_send_131 : decode cX12_send 131 = .ok (.iload 7, 2) := dk_21 (by decide +kernel)
theorem dX12_send_133 : decode cX12_send 133 = .ok (.iaload, 1) := dk_46 (by decide +kernel)
theorem dX12_send_134 : decode cX12_send 134 = .ok (.aload_n 0, 1) := dk_42 (by decide +kernel)
theorem dX12_send_135 : decode cX12_send 135 = .ok (.getfield 321, 3) := dk_180 (by decide +kernel)
theorem dX12_send_138 : decode cX12_send 138 = .ok (.iload 7, 2) := dk_21 (by decide +kernel)
theorem dX12_send_140 : decode cX12_send 140 = .ok (.iaload, 1) := dk_46 (by decide +kernel)
theorem dX12_send_141 : decode cX12_send 141 = .ok (.iload 7, 2) := dk_21 (by decide +kernel)
theorem dX12_send_143 : decode cX12_send 143 = .ok (.iconst 1, 1) := dk_4 (by decide +kernel)
theorem dX12_send_144 : decode cX12_send 144 = .ok (.iadd, 1) := dk_96 (by decide +kernel)
theorem dX12_send_145 : decode cX12_send 145 = .ok (.invokevirtual 1073, 3) := dk_182 (by decide +kernel)
theorem dX12_send_148 : decode cX12_send 148 = .ok (.ifCond .ne 8, 3) := dk_154 (by decide +kernel)
theorem dX12_send_151 : decode cX12_send 151 = .ok (.iload 6, 2) := dk_21 (by decide +kernel)
theorem dX12_send_153 : decode cX12_send 153 = .ok (.ifCond .eq 7, 3) := dk_153 (by decide +kernel)
theorem dX12_send_156 : decode cX12_send 156 = .ok (.iconst 1, 1) := dk_4 (by decide +kernel)
theorem dX12_send_157 : decode cX12_send 157 = .ok (.goto 4, 3) := dk_167 (by decide +kernel)
theorem dX12_send_160 : decode cX12_send 160 = .ok (.iconst 0, 1) := dk_3 (by decide +kernel)
theorem dX12_send_161 : decode cX12_send 161 = .ok (.istore 6, 2) := dk_54 (by decide +kernel)
theorem dX12_send_163 : decode cX12_send 163 = .ok (.aload_n 0, 1) := dk_42 (by decide +kernel)
theorem dX12_send_164 : decode cX12_send 164 = .ok (.getfield 324, 3) := dk_180 (by decide +kernel)
theorem dX12_send_167 : decode cX12_send 167 = .ok (.iload 7, 2) := dk_21 (by decide +kernel)
theorem dX12_send_169 : decode cX12_send 169 = .ok (.iaload, 1) := dk_46 (by decide +kernel)
theorem dX12_send_170 : decode cX12_send 170 = .ok (.ifCond .le 49, 3) := dk_158 (by decide +kernel)
theorem dX12_send_173 : decode cX12_send 173 = .ok (.aload_n 0, 1) := dk_42 (by decide +kernel)
theorem dX12_send_174 : decode cX12_send 174 = .ok (.aload_n 0, 1) := dk_42 (by decide +kernel)
theorem dX12_send_175 : decode cX12_send 175 = .ok (.getfield 315, 3) := dk_180 (by decide +kernel)
theorem dX12_send_178 : decode cX12_send 178 = .ok (.iload 7, 2) := dk_21 (by decide +kernel)
theorem dX12_send_180 : decode cX12_send 180 = .ok (.iaload, 1) := dk_46 (by decide +kernel)
theorem dX12_send_181 : decode cX12_send 181 = .ok (.aload_n 0, 1) := dk_42 (by decide +kernel)
theorem dX12_send_182 : decode cX12_send 182 = .ok (.getfield 312, 3) := dk_180 (by decide +kernel)
theorem dX12_send_185 : decode cX12_send 185 = .ok (.iload 7, 2) := dk_21 (by decide +kernel)
theorem dX12_send_187 : decode cX12_send 187 = .ok (.iaload, 1) := dk_46 (by decide +kernel)
theorem dX12_send_188 : decode cX12_send 188 = .ok (.aload_n 0, 1) := dk_42 (by decide +kernel)
theorem dX12_send_189 : decode cX12_send 189 = .ok (.getfield 321, 3) := dk_180 (by decide +kernel)
theorem dX12_send_192 : decode cX12_send 192 = .ok (.iload 7, 2) := dk_21 (by decide +kernel)
theorem dX12_send_194 : decode cX12_send 194 = .ok (.iaload, 1) := dk_46 (by decide +kernel)
theorem dX12_send_195 : decode cX12_send 195 = .ok (.ineg, 1) := dk_116 (by decide +kernel)
theorem dX12_send_196 : decode cX12_send 196 = .ok (.iload 7, 2) := dk_21 (by decide +kernel)
theorem dX12_send_198 : decode cX12_send 198 = .ok (.ineg, 1) := dk_116 (by decide +kernel)
theorem dX12_send_199 : decode cX12_send 199 = .ok (.iconst 1, 1) := dk_4 (by decide +kernel)
theorem dX12_send_200 : decode cX12_send 200 = .ok (.isub, 1) := dk_100 (by decide +kernel)
theorem dX12_send_201 : decode cX12_send 201 = .ok (.invokevirtual 1073, 3) := dk_182 (by decide +kernel)
theorem dX12_send_204 : decode cX12_send 204 = .ok (.ifCond .ne 8, 3) := dk_154 (by decide +kernel)
theorem dX12_send_207 : decode cX12_send 207 = .ok (.iload 6, 2) := dk_21 (by decide +kernel)
theorem dX12_send_209 : decode cX12_send 209 = .ok (.ifCond .eq 7, 3) := dk_153 (by decide +kernel)
theorem dX12_send_212 : decode cX12_send 212 = .ok (.iconst 1, 1) := dk_4 (by decide +kernel)
theorem dX12_send_213 : decode cX12_send 213 = .ok (.goto 4, 3) := dk_167 (by decide +kernel)
theorem dX12_send_216 : decode cX12_send 216 = .ok (.iconst 0, 1) := dk_3 (by decide +kernel)
theorem dX12_send_217 : decode cX12_send 217 = .ok (.istore 6, 2) := dk_54 (by decide +kernel)
theorem dX12_send_219 : decode cX12_send 219 = .ok (.iinc 7 1, 3) := dk_132 (by decide +kernel)
theorem dX12_send_222 : decode cX12_send 222 = .ok (.goto (-129), 3) := dk_167 (by decide +kernel)
theorem dX12_send_225 : decode cX12_send 225 = .ok (.goto (-143), 3) := dk_167 (by decide +kernel)
theorem dX12_send_228 : decode cX12_send 228 = .ok (.aload_n 0, 1) := dk_42 (by decide +kernel)
theorem dX12_send_229 : decode cX12_send 229 = .ok (.getfield 327, 3) := dk_180 (by decide +kernel)
theorem dX12_send_232 : decode cX12_send 232 = .ok (.iload_n 2, 1) := dk_28 (by decide +kernel)
theorem dX12_send_233 : decode cX12_send 233 = .ok (.iaload, 1) := dk_46 (by decide +kernel)
theorem dX12_send_234 : decode cX12_send 234 = .ok (.ldc_w 1072, 3) := dk_19 (by decide +kernel)
theorem dX12_send_237 : decode cX12_send 237 = .ok (.if_icmp .ge 7, 3) := dk_162 (by decide +kernel)
theorem dX12_send_240 : decode cX12_send 240 = .ok (.iconst 1, 1) := dk_4 (by decide +kernel)
theorem dX12_send_241 : decode cX12_send 241 = .ok (.goto 4, 3) := dk_167 (by decide +kernel)
theorem dX12_send_244 : decode cX12_send 244 = .ok (.iconst 0, 1) := dk_3 (by decide +kernel)
theorem dX12_send_245 : decode cX12_send 245 = .ok (.istore 5, 2) := dk_54 (by decide +kernel)
theorem dX12_send_247 : decode cX12_send 247 = .ok (.iload 5, 2) := dk_21 (by decide +kernel)
theorem dX12_send_249 : decode cX12_send 249 = .ok (.ifCond .eq 18, 3) := dk_153 (by decide +kernel)
theorem dX12_send_252 : decode cX12_send 252 = .ok (.iload 4, 2) := dk_21 (by decide +kernel)
theorem dX12_send_254 : decode cX12_send 254 = .ok (.aload_n 0, 1) := dk_42 (by decide +kernel)
theorem dX12_send_255 : decode cX12_send 255 = .ok (.iload_n 1, 1) := dk_27 (by decide +kernel)
theorem dX12_send_256 : decode cX12_send 256 = .ok (.iload_n 2, 1) := dk_28 (by decide +kernel)
theorem dX12_send_257 : decode cX12_send 257 = .ok (.iload_n 3, 1) := dk_29 (by decide +kernel)
theorem dX12_send_258 : decode cX12_send 258 = .ok (.iload 4, 2) := dk_21 (by decide +kernel)
theorem dX12_send_260 : decode cX12_send 260 = .ok (.isub, 1) := dk_100 (by decide +kernel)
theorem dX12_send_261 : decode cX12_send 261 = .ok (.invokevirtual 1076, 3) := dk_182 (by decide +kernel)
theorem dX12_send_264 : decode cX12_send 264 = .ok (.iadd, 1) := dk_96 (by decide +kernel)
theorem dX12_send_265 : decode cX12_send 265 = .ok (.istore 4, 2) := dk_54 (by decide +kernel)
theorem dX12_send_267 : decode cX12_send 267 = .ok (.goto (-235), 3) := dk_167 (by decide +kernel)
theorem dX12_send_270 : decode cX12_send 270 = .ok (.iload 4, 2) := dk_21 (by decide +kernel)
theorem dX12_send_272 : decode cX12_send 272 = .ok (.ireturn, 1) := dk_172 (by decide +kernel)
def wsRX12_send : List Cond := .code yX12_send cX12_send 8 (some .int) :: ([.fieldLink RX12 1069 "OptimaWorksModel" "arcs" "I", .fieldLink RX12 327 "OptimaWorksModel" "price" "[I", .constant RX12 1072 536870912, .fieldLink RX12 324 "OptimaWorksModel" "flow" "[I", .fieldLink RX12 318 "OptimaWorksModel" "arcRoom" "[I", .fieldLink RX12 312 "OptimaWorksModel" "arcFrom" "[I", .fieldLink RX12 315 "OptimaWorksModel" "arcTo" "[I", .fieldLink RX12 321 "OptimaWorksModel" "arcCost" "[I"] ++ wsX120 ++ (wsV RX12 1076 RX12 yX12_push wsRX12_push) ++ (wsV RX12 1073 RX12 yX12_relax wsRX12_relax))
theorem iwsRX12_send_in12 : ∀ w ∈ wsX120, w ∈ wsRX12_send := fun _ h => List.mem_cons_of_mem _ (List.mem_append_left _ (List.mem_append_left _ (List.mem_append_right _ h)))
theorem gwsRX12_send_0 : GoodIn wsRX12_send (wsV RX12 1076 RX12 yX12_push wsRX12_push) := goodIn_sub (fun _ h => List.mem_cons_of_mem _ (List.mem_append_left _ (List.mem_append_right _ h))) (gdV (by decide +kernel) gdwsRX12_push)
theorem gwsRX12_send_1 : GoodIn wsRX12_send (wsV RX12 1073 RX12 yX12_relax wsRX12_relax) := goodIn_sub (fun _ h => List.mem_cons_of_mem _ (List.mem_append_right _ h)) (gdV (by decide +kernel) gdwsRX12_relax)
theorem gdwsRX12_send : wsRX12_send.all goodWord = true := gdC rfl (gdA (gdA (gdA (by decide +kernel : ([.fieldLink RX12 1069 "OptimaWorksModel" "arcs" "I", .fieldLink RX12 327 "OptimaWorksModel" "price" "[I", .constant RX12 1072 536870912, .fieldLink RX12 324 "OptimaWorksModel" "flow" "[I", .fieldLink RX12 318 "OptimaWorksModel" "arcRoom" "[I", .fieldLink RX12 312 "OptimaWorksModel" "arcFrom" "[I", .fieldLink RX12 315 "OptimaWorksModel" "arcTo" "[I", .fieldLink RX12 321 "OptimaWorksModel" "arcCost" "[I"] : List Cond).all goodWord = true) gdwsX120) (gdV (by decide +kernel) gdwsRX12_push)) (gdV (by decide +kernel) gdwsRX12_relax))
theorem hm_r_X12_send_0 : (.fieldLink RX12 1069 "OptimaWorksModel" "arcs" "I" : Cond) ∈ wsRX12_send := by decide +kernel
theorem hm_r_X12_send_1 : (.fieldLink RX12 327 "OptimaWorksModel" "price" "[I" : Cond) ∈ wsRX12_send := by decide +kernel
theorem hm_r_X12_send_2 : (.constant RX12 1072 536870912 : Cond) ∈ wsRX12_send := by decide +kernel
theorem hm_r_X12_send_3 : (.fieldLink RX12 324 "OptimaWorksModel" "flow" "[I" : Cond) ∈ wsRX12_send := by decide +kernel
theorem hm_r_X12_send_4 : (.fieldLink RX12 312 "OptimaWorksModel" "arcFrom" "[I" : Cond) ∈ wsRX12_send := by decide +kernel
theorem hm_r_X12_send_5 : (.fieldLink RX12 315 "OptimaWorksModel" "arcTo" "[I" : Cond) ∈ wsRX12_send := by decide +kernel
theorem hm_r_X12_send_6 : (.fieldLink RX12 321 "OptimaWorksModel" "arcCost" "[I" : Cond) ∈ wsRX12_send := by decide +kernel
set_option maxHeartbeats 4000000 in
set_option maxRecDepth 100000 in
/-- send(s, t, amount) -/
theorem r_X12_send (l : Launch) (dC : Nat → ClassId) (dI : Nat → Nat → Nat) (a : Nat → Nat) (k : Nat → ClassId) (h0 : Nat) (vi : Nat → Int32) (vj : Nat → Int64) (vF : Nat → Nat → Int32) (vG : Nat → Nat → Int64) (ar : Nat) (sN : Nat) (tN : Nat) (am : Int32) (har : vi 150 = nI ar) (har40 : ar ≤ 40) (hAr : ArO (vF 95) (vF 96) (vF 97) (vF 98) ar) (hs12 : sN < 12) (ht12 : tN < 12) (htsn : tN ≠ sN) (sz : Nat) : Met l yX12_send wsRX12_send ({ frames := 1, cells := 0, slots := 0, locals := 27 }) (va_Pc [.ref h0, .int (nI sN), .int (nI tN), .int am] (fun U => U.heap.size = sz ∧ va_P (dC, dI) vwCl (WR a k h0 vi vj vF vG) U.heap ∧ va_K (dC, dI) vwCl (tX12 k) U ∧ va_D (fun _ => True) (WR a k h0 vi vj vF vG))) (va_Qi (fun (r : Int32) (u : (Nat → Int32) × (Nat → Int32) × (Nat → Int32)) => (FlO (vF 97) (u.1) ar) ∧ (rsI (((ar : Nat) : Int), vF 95, vF 96, vF 97, vF 98) sN tN (fI (u.1)) r.toInt ar) ∧ (r.toInt < (am : Int32).toInt → ∃ R, sep sN tN R ∧ flC (((ar : Nat) : Int), vF 95, vF 96, vF 97, vF 98) (fI (u.1)) R ar) ∧ (0 ≤ r.toInt) ∧ (∃ p, PoO (vF 95) (vF 96) (vF 97) (vF 98) (u.1) ar (fun _ => True) p) ∧ (r.toInt = 0 ∨ r.toInt ≤ (am : Int32).toInt)) (fun (u : (Nat → Int32) × (Nat → Int32) × (Nat → Int32)) t => va_P (dC, dI) vwCl (WR a k h0 vi vj (fT (fT (fT vF 99 (u.1)) 100 (u.2.1)) 101 (u.2.2)) vG) t.heap ∧ va_D (va_A (WR a k h0 vi vj vF vG) sz) (WR a k h0 vi vj (fT (fT (fT vF 99 (u.1)) 100 (u.2.1)) 101 (u.2.2)) vG)) (va_A (WR a k h0 vi vj vF vG) sz)) 0 0 (va_A (WR a k h0 vi vj vF vG) sz) := by
  refine Met.ofW (cc := cX12_send) (maxL := 8) (ret := (some .int)) (by decide) rfl ?_
  intro p e s m args below meth c s₁ B hml hv
  obtain ⟨rfl, hsz, hP, hK, hD0⟩ := hv
  have hx := B.exec
  have hb := B.bytes
  have hr := B.returns
  have hts := atoms_spec (ws := wsRX12_send) B.pre
  have hown : s.vm.findClass RX12 = some m.cls := findClass_of_methodNamed B.named
  have hlocks := B.notSynchronized
  subst hsz
  have hD := hD0.self (sz := s.heap.size)
  generalize hAe : va_A (WR a k h0 vi vj vF vG) s.heap.size = A at hD ⊢
  have hA : ∀ q : Nat, s.heap.size ≤ q → A q := fun q h => by rw [← hAe]; exact Or.inr h
  have hS : va_S A s.heap s.heap [] := va_S.rf
  have hl := lv_entry ([.ref h0, .int (nI sN), .int (nI tN), .int am]) (n := 8) (Nat.le_of_ble_eq_true rfl)
  rw [lg_entry_eq]
  generalize (lg_sl ([.ref h0, .int (nI sN), .int (nI tN), .int am]) ++ List.replicate (8 - (lg_sl ([.ref h0, .int (nI sN), .int (nI tN), .int am])).length) Slot.unset).toArray = ls at hl ⊢
  have hl : lv_has ls 8 [(0, .ref h0), (1, .int (nI sN)), (2, .int (nI tN)), (3, .int am)] := hl
  have hamC := Int32.toInt_lt am
  refine lv_iconst (v := 0) hx hb dX12_send_0 (by decide) ?_
  refine lv_istore hx hb dX12_send_1 hl (by decide) rfl (fun ls (hl : lv_has ls _ ([(4, .int 0), (0, .ref h0), (1, .int (nI sN)), (2, .int (nI tN)), (3, .int am)])) => ?_)
  have e9 : fT vF 99 (vF 99) = vF := by funext q9; by_cases h9_99 : q9 = 99; (subst h9_99; exact (fT_eq _ _ _).trans (Eq.trans (by first | with_reducible rfl | with_reducible assumption | (symm; with_reducible assumption) | rfl | assumption | (symm; assumption) | (subst_vars; rfl)) (Eq.refl _).symm)); exact (fT_ne _ _ h9_99).trans (Eq.refl _).symm
  have hP := wr_PF e9 hP
  have hD := wr_DF e9 hD
  clear e9
  have hl : lv_has _ _ ([(0, .ref h0), (1, .int (nI sN)), (2, .int (nI tN)), (3, .int am), (4, .int (nI 0))]) := lv_sub hl [1, 2, 3, 4, 0] rfl
  refine (fun (loop : ∀ (n9 : Nat) (k5 : Nat) (f0 : Nat → Int32) (H : Heap) (locs : List Loc) (ls : Array Slot), (k5 ≤ ar) → (∀ a, a < k5 → f0 a = 0) →  (ar < k5 + n9) → va_P (dC, dI) vwCl (WR a k h0 vi vj (fT vF 99 f0) vG) H → va_D A (WR a k h0 vi vj (fT vF 99 f0) vG) → va_S A s.heap H locs → lv_has ls 8 [(0, .ref h0), (1, .int (nI sN)), (2, .int (nI tN)), (3, .int am), (4, .int (nI k5))] → W p l e _ s m _ below meth c H locs 0 0 _ (F0 m 3 ls [])) => loop (ar + 1) 0 (vF 99) _ _ _ (by omega) (fun a ha => absurd ha (by omega)) (by omega) hP hD hS hl) ?_
  intro n9
  induction n9 with
  | zero => intro k5 f0 H locs ls hk5 hz0 hf9; exact False.elim (by omega)
  | succ n9 ih3 =>
    intro k5 f0 H locs ls hk5 hz0 hf3 hP hD hS hl
    refine lv_iload hx hb dX12_send_3 (lv_at hl 4 rfl) ?_
    refine lv_aload_n hx hb dX12_send_5 rfl (lv_at hl 0 rfl) ?_
    refine va_get (D := (dC, dI)) (ci := 12) (v := .int (vi 150)) (C := RX12) (T := TX12) (N := 163) (fs := fM (vS a vi vj)) hx hb hts iwsRX12_send_in12 hown hK hP 0 rfl rfl 150 (by decide) (hts _ hm_r_X12_send_0) (fun _ h9 => h9) rfl dX12_send_6 ?_
    refine lv_topi (fun y1 hy1 => ?_)
    obtain rfl : (nI ar) = y1 := (hy1.trans (har)).symm
    refine lv_icmp_ge (tgt := 26) hx hb dX12_send_9 (by decide) (fun c_9 => ?_) (fun c_9 => ?_)
    · have t_9 : ((k5 : Nat) : Int) ≥ ((ar : Nat) : Int) := toI_ge c_9 (nI_toInt (by omega)) (nI_toInt (by omega))
      have hz9 : ∀ a, a < ar → f0 a = 0 := fun a ha => hz0 a (by omega)
      refine lv_iconst (v := 0) hx hb dX12_send_26 (by decide) ?_
      refine lv_istore hx hb dX12_send_27 hl (by decide) rfl (fun ls (hl : lv_has ls _ ([(4, .int 0), (0, .ref h0), (1, .int (nI sN)), (2, .int (nI tN)), (3, .int am)])) => ?_)
      refine lv_iconst (v := 1) hx hb dX12_send_29 (by decide) ?_
      refine lv_istore hx hb dX12_send_30 hl (by decide) rfl (fun ls (hl : lv_has ls _ ([(5, .int 1), (4, .int 0), (0, .ref h0), (1, .int (nI sN)), (2, .int (nI tN)), (3, .int am)])) => ?_)
      have e9 : fT (fT (fT vF 99 f0) 100 (vF 100)) 101 (vF 101) = fT vF 99 f0 := Eq.trans (mv_1 rfl) (Eq.trans (id_2 rfl) (id_1 rfl))
      have hP := wr_PF e9 hP
      have hD := wr_DF e9 hD
      clear e9
      have hl : lv_has _ _ ([(0, .ref h0), (1, .int (nI sN)), (2, .int (nI tN)), (3, .int am), (4, .int (nI 0)), (5, .int 1)]) := lv_sub hl [2, 3, 4, 5, 1, 0] rfl
      refine (fun (loop : ∀ (n9 : Nat) (sn : Nat) (mo : Int32) (f9 : Nat → Int32) (RR : Nat → Prop) (pp : Nat → Int) (x4_F100 : Nat → Int32) (x4_F101 : Nat → Int32) (H : Heap) (locs : List Loc) (ls : Array Slot), (FlO (vF 97) f9 ar) → (PoO (vF 95) (vF 96) (vF 97) (vF 98) f9 ar RR pp) → (∀ v, RR v → 0 ≤ pp v) → (pp sN = 0) → (RR sN) → (sn = 0 ∨ (sn : Int) ≤ (am).toInt) → (rsI (((ar : Nat) : Int), vF 95, vF 96, vF 97, vF 98) sN tN (fI f9) (sn : Int) ar) → (∃ p, PoO (vF 95) (vF 96) (vF 97) (vF 98) f9 ar (fun _ => True) p) → (mo = 0 → ∃ R, sep sN tN R ∧ flC (((ar : Nat) : Int), vF 95, vF 96, vF 97, vF 98) (fI f9) R ar) →  ((mo = 0 ∧ 0 < n9) ∨ (0 < n9 ∧ (am).toInt < (sn : Int) + (n9 : Int))) → va_P (dC, dI) vwCl (WR a k h0 vi vj (fT (fT (fT vF 99 f9) 100 x4_F100) 101 x4_F101) vG) H → va_D A (WR a k h0 vi vj (fT (fT (fT vF 99 f9) 100 x4_F100) 101 x4_F101) vG) → va_S A s.heap H locs → lv_has ls 8 [(0, .ref h0), (1, .int (nI sN)), (2, .int (nI tN)), (3, .int am), (4, .int (nI sn)), (5, .int mo)] → W p l e _ s m _ below meth c H locs 0 0 _ (F0 m 32 ls [])) => loop ((am).toInt.toNat + 1) 0 1 f0 (fun _ => True) (fun _ => 0) (vF 100) (vF 101) _ _ _ (FlO.init hAr hz9) (PoO.init hAr hz9) (fun _ _ => Int.le_refl _) (rfl) (trivial) (Or.inl rfl) (rsI.start (fun a ha => by unfold fI; (try dsimp only); rw [hz9 a ha]; decide)) (⟨_, PoO.init hAr hz9⟩) (fun h9 => absurd h9 (by decide)) (Or.inr ⟨by omega, by omega⟩) hP hD hS hl) ?_
      intro n9
      induction n9 with
      | zero => intro sn mo f9 RR pp x4_F100 x4_F101 H locs ls hFl hPo hpR hps hRs hsn hrI hPa hEn hf9; exact False.elim (by omega)
      | succ n9 ih32_1 =>
        intro sn mo f9 RR pp x4_F100 x4_F101 H locs ls hFl hPo hpR hps hRs hsn hrI hPa hEn hf32_1 hP hD hS hl
        have hfx := hf32_1
        refine lv_iload hx hb dX12_send_32 (lv_at hl 5 rfl) ?_
        refine lv_if_eq (tgt := 270) hx hb dX12_send_34 (by decide) (fun c_34 => ?_) (fun c_34 => ?_)
        · have t_34 : (mo).toInt = 0 := toI_eq c_34 rfl (by decide)
          refine lv_iload hx hb dX12_send_270 (lv_at hl 4 rfl) ?_
          refine W.widen (k := 0) (n := 0) (by decide +kernel) (by decide +kernel) ?_
          exact W.iret (v := (nI sn)) hx hb hr (fun t9_ ht hW => ⟨⟨(nI sn), (f9, x4_F100, x4_F101), rfl, by (try dsimp only); exact ⟨hFl, by rw [nI_toInt (by omega)]; exact hrI, fun h9 => hEn c_34, by rw [nI_toInt (by omega)]; omega, hPa, by rw [nI_toInt (by omega)]; omega⟩, by rw [ht]; exact hP, hD⟩, hS.F ht⟩) hS.2.2 dX12_send_272
        · have t_34 : ¬ (mo).toInt = 0 := toI_neq c_34 rfl (by decide)
          refine lv_iload hx hb dX12_send_37 (lv_at hl 4 rfl) ?_
          refine lv_iload_n hx hb dX12_send_39 rfl (lv_at hl 3 rfl) ?_
          refine lv_icmp_ge (tgt := 270) hx hb dX12_send_40 (by decide) (fun c_40 => ?_) (fun c_40 => ?_)
          · have t_40 : ((sn : Nat) : Int) ≥ (am).toInt := toI_ge c_40 (nI_toInt (by omega)) rfl
            refine lv_iload hx hb dX12_send_270 (lv_at hl 4 rfl) ?_
            refine W.widen (k := 0) (n := 0) (by decide +kernel) (by decide +kernel) ?_
            exact W.iret (v := (nI sn)) hx hb hr (fun t9_ ht hW => ⟨⟨(nI sn), (f9, x4_F100, x4_F101), rfl, by (try dsimp only); exact ⟨hFl, by rw [nI_toInt (by omega)]; exact hrI, fun h9 => absurd h9 (by rw [nI_toInt (by omega)]; omega), by rw [nI_toInt (by omega)]; omega, hPa, by rw [nI_toInt (by omega)]; omega⟩, by rw [ht]; exact hP, hD⟩, hS.F ht⟩) hS.2.2 dX12_send_272
          · have t_40 : ¬ ((sn : Nat) : Int) ≥ (am).toInt := toI_nge c_40 (nI_toInt (by omega)) rfl
            refine lv_iconst (v := 0) hx hb dX12_send_43 (by decide) ?_
            refine lv_istore hx hb dX12_send_44 hl (by decide) rfl (fun ls (hl : lv_has ls _ ([(6, .int 0), (0, .ref h0), (1, .int (nI sN)), (2, .int (nI tN)), (3, .int am), (4, .int (nI sn)), (5, .int mo)])) => ?_)
            have hl : lv_has _ _ ([(0, .ref h0), (1, .int (nI sN)), (2, .int (nI tN)), (3, .int am), (4, .int (nI sn)), (6, .int (nI 0))]) := lv_sub hl [1, 2, 3, 4, 5, 0] rfl
            refine (fun (loop : ∀ (n9 : Nat) (n1 : Nat) (f1 : Nat → Int32) (H : Heap) (locs : List Loc) (ls : Array Slot), (n1 ≤ 12) → (∀ n, n < n1 → f1 n = if n = sN then 0 else 536870912) →  (12 < n1 + n9) → va_P (dC, dI) vwCl (WR a k h0 vi vj (fT (fT (fT vF 99 f9) 100 f1) 101 x4_F101) vG) H → va_D A (WR a k h0 vi vj (fT (fT (fT vF 99 f9) 100 f1) 101 x4_F101) vG) → va_S A s.heap H locs → lv_has ls 8 [(0, .ref h0), (1, .int (nI sN)), (2, .int (nI tN)), (3, .int am), (4, .int (nI sn)), (6, .int (nI n1))] → W p l e _ s m _ below meth c H locs 0 0 _ (F0 m 46 ls [])) => loop (13) 0 x4_F100 _ _ _ (by omega) (fun n hn => absurd hn (by omega)) (by omega) hP hD hS hl) ?_
            intro n9
            induction n9 with
            | zero => intro n1 f1 H locs ls hn1 hz1 hf9; exact False.elim (by omega)
            | succ n9 ih46_2 =>
              intro n1 f1 H locs ls hn1 hz1 hf46_2 hP hD hS hl
              refine lv_iload hx hb dX12_send_46 (lv_at hl 5 rfl) ?_
              refine lv_bipush (v := 12) hx hb dX12_send_48 (by decide) ?_
              refine lv_icmp_ge (tgt := 79) hx hb dX12_send_50 (by decide) (fun c_50 => ?_) (fun c_50 => ?_)
              · have t_50 : ((n1 : Nat) : Int) ≥ 12 := toI_ge c_50 (nI_toInt (by omega)) (by decide)
                have hBf0 : BfI (vF 95) (vF 96) (vF 97) (vF 98) f9 ar sN RR pp f1 x4_F101 (fun _ => 0) 0 := BfI.init hs12 hRs hps (fun n hn => hz1 n (by omega))
                refine lv_iconst (v := 1) hx hb dX12_send_79 (by decide) ?_
                refine lv_istore hx hb dX12_send_80 hl (by decide) rfl (fun ls (hl : lv_has ls _ ([(6, .int 1), (0, .ref h0), (1, .int (nI sN)), (2, .int (nI tN)), (3, .int am), (4, .int (nI sn))])) => ?_)
                have hl : lv_has _ _ ([(0, .ref h0), (1, .int (nI sN)), (2, .int (nI tN)), (3, .int am), (4, .int (nI sn)), (6, .int 1)]) := lv_sub hl [1, 2, 3, 4, 5, 0] rfl
                refine (fun (loop : ∀ (n9 : Nat) (lz : Int32) (pr1 : Nat → Int32) (bY1 : Nat → Int32) (T1 : Nat → Nat) (tm1 : Nat) (H : Heap) (locs : List Loc) (ls : Array Slot), (BfI (vF 95) (vF 96) (vF 97) (vF 98) f9 ar sN RR pp pr1 bY1 T1 tm1) → (lz = 0 → PrC (vF 95) (vF 96) (vF 97) (vF 98) f9 ar pr1) →  ((lz = 0 ∧ 0 < n9) ∨ sPr pr1 + 1 < n9) → va_P (dC, dI) vwCl (WR a k h0 vi vj (fT (fT (fT vF 99 f9) 100 pr1) 101 bY1) vG) H → va_D A (WR a k h0 vi vj (fT (fT (fT vF 99 f9) 100 pr1) 101 bY1) vG) → va_S A s.heap H locs → lv_has ls 8 [(0, .ref h0), (1, .int (nI sN)), (2, .int (nI tN)), (3, .int am), (4, .int (nI sn)), (6, .int lz)] → W p l e _ s m _ below meth c H locs 0 0 _ (F0 m 82 ls [])) => loop (sPr f1 + 2) 1 f1 x4_F101 (fun _ => 0) 0 _ _ _ (hBf0) (fun h9 => absurd h9 (by decide)) (Or.inr (by omega)) hP hD hS hl) ?_
                intro n9
                induction n9 with
                | zero => intro lz pr1 bY1 T1 tm1 H locs ls hBf1 hCl1 hf9; exact False.elim (by omega)
                | succ n9 ih82_3 =>
                  intro lz pr1 bY1 T1 tm1 H locs ls hBf1 hCl1 hf82_3 hP hD hS hl
                  have hfz := hf82_3
                  refine lv_iload hx hb dX12_send_82 (lv_at hl 5 rfl) ?_
                  refine lv_if_eq (tgt := 228) hx hb dX12_send_84 (by decide) (fun c_84 => ?_) (fun c_84 => ?_)
                  · have t_84 : (lz).toInt = 0 := toI_eq c_84 rfl (by decide)
                    have hCl9 := hCl1 c_84
                    have hbt := hBf1.1.bd hpR ht12
                    obtain ⟨rk, hTk⟩ := hBf1.rank hpR
                    have hbb : ∀ v, v < 12 → (pr1 v).toInt ≤ 536870912 ∧ (pr1 v ≠ 536870912 → (pr1 v).toInt ≤ 11000) := fun v hv => by (have h9 := hBf1.1.bd hpR hv); exact ⟨h9.2.1, fun h8 => (h9.2.2 h8).1⟩
                    refine lv_aload_n hx hb dX12_send_228 rfl (lv_at hl 0 rfl) ?_
                    refine va_get (D := (dC, dI)) (ci := 12) (v := .ref (a 100)) (C := RX12) (T := TX12) (N := 163) (fs := fM (vS a vi vj)) hx hb hts iwsRX12_send_in12 hown hK hP 0 rfl rfl 156 (by decide) (hts _ hm_r_X12_send_1) (fun _ h9 => h9) rfl dX12_send_229 ?_
                    refine lv_iload_n hx hb dX12_send_232 rfl (lv_at hl 2 rfl) ?_
                    refine va_iald (cA := k 100) (n := 12) (f := pr1) hx hb hK hP 101 100 (WR_get 100 (by decide)) (TR_get 100 (by decide)) (vp_in_nI (show tN < 12 by omega) (by omega)) dX12_send_233 ?_
                    refine lv_topi (fun y2 hy2 => ?_)
                    obtain rfl : (pr1 tN) = y2 := (hy2.trans (by rw [nI_clamp (by omega)])).symm
                    refine lv_ldcw (v := 536870912) hx hb hown (hts _ hm_r_X12_send_2) dX12_send_234 ?_
                    refine lv_icmp_ge (tgt := 244) hx hb dX12_send_237 (by decide) (fun c_237 => ?_) (fun c_237 => ?_)
                    · have t_237 : ((pr1 tN)).toInt ≥ 536870912 := toI_ge c_237 rfl (by decide)
                      refine lv_iconst (v := 0) hx hb dX12_send_244 (by decide) ?_
                      refine lv_istore hx hb dX12_send_245 hl (by decide) rfl (fun ls (hl : lv_has ls _ ([(5, .int 0), (0, .ref h0), (1, .int (nI sN)), (2, .int (nI tN)), (3, .int am), (4, .int (nI sn)), (6, .int lz)])) => ?_)
                      refine lv_iload hx hb dX12_send_247 (lv_at hl 0 rfl) ?_
                      refine lv_if_eq (tgt := 267) hx hb dX12_send_249 (by decide) (fun _ => ?_) (fun c9 => absurd (by decide) c9)
                      refine lv_goto (tgt := 32) hx hb dX12_send_267 (by decide) ?_
                      have hl : lv_has _ _ ([(0, .ref h0), (1, .int (nI sN)), (2, .int (nI tN)), (3, .int am), (4, .int (nI sn)), (5, .int 0)]) := lv_sub hl [1, 2, 3, 4, 5, 0] rfl
                      exact ih32_1 sn 0 f9 RR pp pr1 bY1 _ _ _ (hFl) (hPo) (hpR) (hps) (hRs) (hsn) (hrI) (hPa) (fun _ => flC_end hAr hFl hCl9 hbb hBf1.1.1 ht12 t_237) (by (have h8 := hfx.resolve_left (fun h => c_34 h.1)); exact Or.inl ⟨rfl, by omega⟩) hP hD hS hl
                    · have t_237 : ¬ ((pr1 tN)).toInt ≥ 536870912 := toI_nge c_237 rfl (by decide)
                      refine lv_iconst (v := 1) hx hb dX12_send_240 (by decide) ?_
                      refine lv_goto (tgt := 245) hx hb dX12_send_241 (by decide) ?_
                      refine lv_istore hx hb dX12_send_245 hl (by decide) rfl (fun ls (hl : lv_has ls _ ([(5, .int 1), (0, .ref h0), (1, .int (nI sN)), (2, .int (nI tN)), (3, .int am), (4, .int (nI sn)), (6, .int lz)])) => ?_)
                      refine lv_iload hx hb dX12_send_247 (lv_at hl 0 rfl) ?_
                      refine lv_if_eq (tgt := 267) hx hb dX12_send_249 (by decide) (fun c9 => absurd c9 (by decide)) (fun _ => ?_)
                      have hFm : (536870912 : Int32).toInt = 536870912 := by decide
                      have htl : pr1 tN ≠ 536870912 := fun e9 => by rw [e9, hFm] at t_237; omega
                      have hsb := subN (x := am) (n := sn) (by omega)
                      refine lv_iload hx hb dX12_send_252 (lv_at hl 5 rfl) ?_
                      refine lv_aload_n hx hb dX12_send_254 rfl (lv_at hl 1 rfl) ?_
                      refine lv_iload_n hx hb dX12_send_255 rfl (lv_at hl 2 rfl) ?_
                      refine lv_iload_n hx hb dX12_send_256 rfl (lv_at hl 3 rfl) ?_
                      refine lv_iload_n hx hb dX12_send_257 rfl (lv_at hl 4 rfl) ?_
                      refine lv_iload hx hb dX12_send_258 (lv_at hl 5 rfl) ?_
                      refine lv_isub hx hb dX12_send_260 ?_
                      have hFc := allFree hD hS hA
                      refine va_calli (va_runV (As := [.int (nI sN), .int (nI tN), .int (am - (nI sn))]) (rest := [.int (nI sn)]) ⟨hx, hb, hml, hown, hts⟩ (r_X12_push l dC dI a k h0 vi vj (fT (fT (fT vF 99 f9) 100 pr1) 101 bY1) vG ar sN tN (am - (nI sn)) rk har (by first | with_reducible assumption | decide | omega | rfl | assumption) (by first | with_reducible assumption | decide | omega | rfl | assumption) (by first | with_reducible assumption | decide | omega | rfl | assumption) (by first | with_reducible assumption | decide | omega | rfl | assumption) (hFl) (hTk) (htl) (by first | with_reducible assumption | decide | omega | rfl | assumption) (by omega) H.size) (cwV 3 hts gwsRX12_send_0 rfl rfl rfl hd_yX12_push_RX12 (by decide +kernel)) (fz_pre (va_recv hK hP (ci := 12) (q0 := 0) rfl rfl) hP hK hD) rfl rfl hl.1 rfl (lv_room (Nat.le_of_ble_eq_true rfl)) dX12_send_261 (by decide +kernel)) hS (fun q _ h => hFc q h) hFc (fun r261 g99261 t9_ H locs ht hvm hw9 hB9 hz1 hk1 hS => ?_)
                      have e9F : fT (fT (fT vF 99 g99261) 100 pr1) 101 bY1 = fT (fT (fT (fT vF 99 f9) 100 pr1) 101 bY1) 99 g99261 := ((fT_sw _ _ _ (Nat.ne_of_beq_eq_false rfl)).trans (congrArg (fun g9 => fT g9 101 bY1) ((fT_sw _ _ _ (Nat.ne_of_beq_eq_false rfl)).trans (congrArg (fun g9 => fT g9 100 pr1) (fT_sm _ _ _ _))))).symm
                      have hP := wr_PF e9F (fz_P ht hB9.1)
                      have hD := wr_DF e9F (hB9.2.weaken (fun _ q _ h => hFc q.1 h))
                      clear e9F
                      revert hw9
                      refine fz_a4 ?_
                      intro f261_0 f261_1 f261_2 f261_3
                      have f261_1 : FlO (vF 97) g99261 ar := f261_1
                      have f261_2 : ∀ a, a < ar → g99261 a = f9 a ∨ ∃ w, w < 12 ∧ pr1 w ≠ 536870912 ∧ w ≠ sN ∧ ((bY1 w).toInt = (a : Int) + 1 ∨ (bY1 w).toInt = -((a : Int) + 1)) := f261_2
                      have f261_3 : ∀ S, rsA (((ar : Nat) : Int), (vF 95), (vF 96), (vF 97), (vF 98)) (fI g99261) S ar = rsA (((ar : Nat) : Int), (vF 95), (vF 96), (vF 97), (vF 98)) (fI f9) S ar - (sW S sN r261.toInt - sW S tN r261.toInt) := f261_3
                      have hamB := Int32.toInt_lt am
                      obtain ⟨q5, hq5, eq5⟩ := of_toInt (x := r261) (k := 2147483648) (by omega) (by omega)
                      have eq6 : (q5 : Int) = (r261).toInt := by rw [eq5, nI_toInt (by omega)]
                      refine lv_topi (fun y3 hy3 => ?_)
                      obtain rfl : (nI q5) = y3 := (hy3.trans (eq5)).symm
                      refine lv_iadd hx hb dX12_send_264 ?_
                      refine lv_topi (fun y4 hy4 => ?_)
                      obtain rfl : (nI (sn + q5)) = y4 := (hy4.trans (nI_add sn q5)).symm
                      refine lv_istore hx hb dX12_send_265 hl (by decide) rfl (fun ls (hl : lv_has ls _ ([(4, .int (nI (sn + q5))), (5, .int 1), (0, .ref h0), (1, .int (nI sN)), (2, .int (nI tN)), (3, .int am), (6, .int lz)])) => ?_)
                      refine lv_goto (tgt := 32) hx hb dX12_send_267 (by decide) ?_
                      have hl : lv_has _ _ ([(0, .ref h0), (1, .int (nI sN)), (2, .int (nI tN)), (3, .int am), (4, .int (nI (sn + q5))), (5, .int 1)]) := lv_sub hl [2, 3, 4, 5, 0, 1] rfl
                      exact ih32_1 (sn + q5) 1 g99261 (fun v => v < 12 ∧ pr1 v ≠ 536870912) (fun v => (pr1 v).toInt) pr1 bY1 _ _ _ (f261_1) (PoO.after hAr hTk hCl9 hbb f261_2) (fun v hv => (hBf1.1.bd hpR hv.1).1) (hBf1.1.1) (⟨hs12, fun e9 => by (have h9 := hBf1.1.1); rw [e9] at h9; exact absurd h9 (by decide)⟩) (Or.inr (by omega)) (hrI.more f261_3 (by omega)) (PoO.all hAr hTk hCl9 hbb f261_2 hPa) (fun h9 => absurd h9 (by decide)) (by (have h8 := hfx.resolve_left (fun h => c_34 h.1)); exact Or.inr ⟨by omega, by omega⟩) hP hD hS hl
                  · have t_84 : ¬ (lz).toInt = 0 := toI_neq c_84 rfl (by decide)
                    refine lv_iconst (v := 0) hx hb dX12_send_87 (by decide) ?_
                    refine lv_istore hx hb dX12_send_88 hl (by decide) rfl (fun ls (hl : lv_has ls _ ([(6, .int 0), (0, .ref h0), (1, .int (nI sN)), (2, .int (nI tN)), (3, .int am), (4, .int (nI sn))])) => ?_)
                    refine lv_iconst (v := 0) hx hb dX12_send_90 (by decide) ?_
                    refine lv_istore hx hb dX12_send_91 hl (by decide) rfl (fun ls (hl : lv_has ls _ ([(7, .int 0), (6, .int 0), (0, .ref h0), (1, .int (nI sN)), (2, .int (nI tN)), (3, .int am), (4, .int (nI sn))])) => ?_)
                    have hl : lv_has _ _ ([(0, .ref h0), (1, .int (nI sN)), (2, .int (nI tN)), (3, .int am), (4, .int (nI sn)), (6, .int 0), (7, .int (nI 0))]) := lv_sub hl [2, 3, 4, 5, 6, 1, 0] rfl
                    refine (fun (loop : ∀ (n9 : Nat) (a5 : Nat) (l2 : Int32) (pr2 : Nat → Int32) (bY2 : Nat → Int32) (T2 : Nat → Nat) (tm2 : Nat) (H : Heap) (locs : List Loc) (ls : Array Slot), (a5 ≤ ar) → (BfI (vF 95) (vF 96) (vF 97) (vF 98) f9 ar sN RR pp pr2 bY2 T2 tm2) → ((l2 = 0 ∧ sPr pr2 ≤ sPr pr1) ∨ sPr pr2 < sPr pr1) → (l2 = 0 → PrC (vF 95) (vF 96) (vF 97) (vF 98) f9 a5 pr2) →  (ar < a5 + n9) → va_P (dC, dI) vwCl (WR a k h0 vi vj (fT (fT (fT vF 99 f9) 100 pr2) 101 bY2) vG) H → va_D A (WR a k h0 vi vj (fT (fT (fT vF 99 f9) 100 pr2) 101 bY2) vG) → va_S A s.heap H locs → lv_has ls 8 [(0, .ref h0), (1, .int (nI sN)), (2, .int (nI tN)), (3, .int am), (4, .int (nI sn)), (6, .int l2), (7, .int (nI a5))] → W p l e _ s m _ below meth c H locs 0 0 _ (F0 m 93 ls [])) => loop (ar + 1) 0 0 pr1 bY1 T1 tm1 _ _ _ (by omega) (hBf1) (Or.inl ⟨rfl, Nat.le_refl _⟩) (fun _ a9 x9 z9 k1 => absurd k1 (by omega)) (by omega) hP hD hS hl) ?_
                    intro n9
                    induction n9 with
                    | zero => intro a5 l2 pr2 bY2 T2 tm2 H locs ls ha5 hBf2 hM2 hCl hf9; exact False.elim (by omega)
                    | succ n9 ih93_4 =>
                      intro a5 l2 pr2 bY2 T2 tm2 H locs ls ha5 hBf2 hM2 hCl hf93_4 hP hD hS hl
                      refine lv_iload hx hb dX12_send_93 (lv_at hl 6 rfl) ?_
                      refine lv_aload_n hx hb dX12_send_95 rfl (lv_at hl 0 rfl) ?_
                      refine va_get (D := (dC, dI)) (ci := 12) (v := .int (vi 150)) (C := RX12) (T := TX12) (N := 163) (fs := fM (vS a vi vj)) hx hb hts iwsRX12_send_in12 hown hK hP 0 rfl rfl 150 (by decide) (hts _ hm_r_X12_send_0) (fun _ h9 => h9) rfl dX12_send_96 ?_
                      refine lv_topi (fun y5 hy5 => ?_)
                      obtain rfl : (nI ar) = y5 := (hy5.trans (har)).symm
                      refine lv_icmp_ge (tgt := 225) hx hb dX12_send_99 (by decide) (fun c_99 => ?_) (fun c_99 => ?_)
                      · have t_99 : ((a5 : Nat) : Int) ≥ ((ar : Nat) : Int) := toI_ge c_99 (nI_toInt (by omega)) (nI_toInt (by omega))
                        refine lv_goto (tgt := 82) hx hb dX12_send_225 (by decide) ?_
                        have hl : lv_has _ _ ([(0, .ref h0), (1, .int (nI sN)), (2, .int (nI tN)), (3, .int am), (4, .int (nI sn)), (6, .int l2)]) := lv_sub hl [0, 1, 2, 3, 4, 5] rfl
                        exact ih82_3 l2 pr2 bY2 T2 tm2 _ _ _ (hBf2) (fun h9 => by (have h8 := hCl h9); rw [show a5 = ar by omega] at h8; exact h8) (by (have h8 := hfz.resolve_left (fun h => c_84 h.1)); rcases hM2 with ⟨h1, h2⟩ | h1; (exact Or.inl ⟨h1, by omega⟩); (exact Or.inr (by omega))) hP hD hS hl
                      · have t_99 : ¬ ((a5 : Nat) : Int) ≥ ((ar : Nat) : Int) := toI_nge c_99 (nI_toInt (by omega)) (nI_toInt (by omega))
                        obtain ⟨x5, yB, hx5, hyB, hxy5, ex5, eyB, hr5, hc5⟩ := hAr a5 (by omega)
                        have hbx := hBf2.1.bd hpR hx5
                        have hby := hBf2.1.bd hpR hyB
                        have hpo := hPo a5 x5 yB (by omega) hx5 hyB ex5 eyB
                        refine lv_aload_n hx hb dX12_send_102 rfl (lv_at hl 0 rfl) ?_
                        refine va_get (D := (dC, dI)) (ci := 12) (v := .ref (a 99)) (C := RX12) (T := TX12) (N := 163) (fs := fM (vS a vi vj)) hx hb hts iwsRX12_send_in12 hown hK hP 0 rfl rfl 155 (by decide) (hts _ hm_r_X12_send_3) (fun _ h9 => h9) rfl dX12_send_103 ?_
                        refine lv_iload hx hb dX12_send_106 (lv_at hl 6 rfl) ?_
                        refine va_iald (cA := k 99) (n := 40) (f := f9) hx hb hK hP 100 99 (WR_get 99 (by decide)) (TR_get 99 (by decide)) (vp_in_nI (show a5 < 40 by omega) (by omega)) dX12_send_108 ?_
                        refine lv_topi (fun y6 hy6 => ?_)
                        obtain rfl : (f9 a5) = y6 := (hy6.trans (by rw [nI_clamp (by omega)])).symm
                        refine lv_aload_n hx hb dX12_send_109 rfl (lv_at hl 0 rfl) ?_
                        refine va_get (D := (dC, dI)) (ci := 12) (v := .ref (a 97)) (C := RX12) (T := TX12) (N := 163) (fs := fM (vS a vi vj)) hx hb hts iwsRX12_send_in12 hown hK hP 0 rfl rfl 153 (by decide) (hts (.fieldLink RX12 318 "OptimaWorksModel" "arcRoom" "[I") (by decide +kernel)) (fun _ h9 => h9) rfl dX12_send_110 ?_
                        refine lv_iload hx hb dX12_send_113 (lv_at hl 6 rfl) ?_
                        refine va_iald (cA := k 97) (n := 40) (f := (vF 97)) hx hb hK hP 98 97 (WR_get 97 (by decide)) (TR_get 97 (by decide)) (vp_in_nI (show a5 < 40 by omega) (by omega)) dX12_send_115 ?_
                        refine lv_topi (fun y7 hy7 => ?_)
                        obtain rfl : ((vF 97) a5) = y7 := (hy7.trans (by rw [nI_clamp (by omega)])).symm
                        refine W.cut (pc := 163) (fun H locs ls stk => ∃ (l3 : Int32) (pr3 : Nat → Int32) (bY3 : Nat → Int32) (T3 : Nat → Nat) (tm3 : Nat), (BfI (vF 95) (vF 96) (vF 97) (vF 98) f9 ar sN RR pp pr3 bY3 T3 tm3) ∧ ((l3 = 0 ∧ sPr pr3 ≤ sPr pr1) ∨ sPr pr3 < sPr pr1) ∧ (l3 = 0 → PrC (vF 95) (vF 96) (vF 97) (vF 98) f9 a5 pr3 ∧ ((f9 a5).toInt < (vF 97 a5).toInt → pr3 x5 ≠ 536870912 → (pr3 yB).toInt ≤ (pr3 x5).toInt + (vF 98 a5).toInt)) ∧  stk = [] ∧ va_P (dC, dI) vwCl (WR a k h0 vi vj (fT (fT (fT vF 99 f9) 100 pr3) 101 bY3) vG) H ∧ va_D A (WR a k h0 vi vj (fT (fT (fT vF 99 f9) 100 pr3) 101 bY3) vG) ∧ va_S A s.heap H locs ∧ lv_has ls 8 [(0, .ref h0), (1, .int (nI sN)), (2, .int (nI tN)), (3, .int am), (4, .int (nI sn)), (6, .int l3), (7, .int (nI a5))]) (fun join1 => ?_) ?_
                        · refine lv_icmp_ge (tgt := 163) hx hb dX12_send_116 (by decide) (fun c_116 => ?_) (fun c_116 => ?_)
                          · have t_116 : ((f9 a5)).toInt ≥ (((vF 97) a5)).toInt := toI_ge c_116 rfl rfl
                            have hl : lv_has _ _ ([(0, .ref h0), (1, .int (nI sN)), (2, .int (nI tN)), (3, .int am), (4, .int (nI sn)), (6, .int l2), (7, .int (nI a5))]) := lv_sub hl [0, 1, 2, 3, 4, 5, 6] rfl
                            exact join1 _ _ _ _ ⟨l2, pr2, bY2, T2, tm2, hBf2, hM2, fun h9 => ⟨hCl h9, fun h8 => absurd h8 (by omega)⟩, rfl, hP, hD, hS, hl⟩
                          · have t_116 : ¬ ((f9 a5)).toInt ≥ (((vF 97) a5)).toInt := toI_nge c_116 rfl rfl
                            refine lv_aload_n hx hb dX12_send_119 rfl (lv_at hl 0 rfl) ?_
                            refine lv_aload_n hx hb dX12_send_120 rfl (lv_at hl 0 rfl) ?_
                            refine va_get (D := (dC, dI)) (ci := 12) (v := .ref (a 95)) (C := RX12) (T := TX12) (N := 163) (fs := fM (vS a vi vj)) hx hb hts iwsRX12_send_in12 hown hK hP 0 rfl rfl 151 (by decide) (hts _ hm_r_X12_send_4) (fun _ h9 => h9) rfl dX12_send_121 ?_
                            refine lv_iload hx hb dX12_send_124 (lv_at hl 6 rfl) ?_
                            refine va_iald (cA := k 95) (n := 40) (f := (vF 95)) hx hb hK hP 96 95 (WR_get 95 (by decide)) (TR_get 95 (by decide)) (vp_in_nI (show a5 < 40 by omega) (by omega)) dX12_send_126 ?_
                            refine lv_topi (fun y8 hy8 => ?_)
                            obtain rfl : ((vF 95) a5) = y8 := (hy8.trans (by rw [nI_clamp (by omega)])).symm
                            refine lv_topi (fun y9 hy9 => ?_)
                            obtain rfl : (nI x5) = y9 := (hy9.trans (ex5)).symm
                            refine lv_aload_n hx hb dX12_send_127 rfl (lv_at hl 0 rfl) ?_
                            refine va_get (D := (dC, dI)) (ci := 12) (v := .ref (a 96)) (C := RX12) (T := TX12) (N := 163) (fs := fM (vS a vi vj)) hx hb hts iwsRX12_send_in12 hown hK hP 0 rfl rfl 152 (by decide) (hts _ hm_r_X12_send_5) (fun _ h9 => h9) rfl dX12_send_128 ?_
                            refine lv_iload hx hb dX12_send_131 (lv_at hl 6 rfl) ?_
                            refine va_iald (cA := k 96) (n := 40) (f := (vF 96)) hx hb hK hP 97 96 (WR_get 96 (by decide)) (TR_get 96 (by decide)) (vp_in_nI (show a5 < 40 by omega) (by omega)) dX12_send_133 ?_
                            refine lv_topi (fun y10 hy10 => ?_)
                            obtain rfl : ((vF 96) a5) = y10 := (hy10.trans (by rw [nI_clamp (by omega)])).symm
                            refine lv_topi (fun y11 hy11 => ?_)
                            obtain rfl : (nI yB) = y11 := (hy11.trans (eyB)).symm
                            refine lv_aload_n hx hb dX12_send_134 rfl (lv_at hl 0 rfl) ?_
                            refine va_get (D := (dC, dI)) (ci := 12) (v := .ref (a 98)) (C := RX12) (T := TX12) (N := 163) (fs := fM (vS a vi vj)) hx hb hts iwsRX12_send_in12 hown hK hP 0 rfl rfl 154 (by decide) (hts _ hm_r_X12_send_6) (fun _ h9 => h9) rfl dX12_send_135 ?_
                            refine lv_iload hx hb dX12_send_138 (lv_at hl 6 rfl) ?_
                            refine va_iald (cA := k 98) (n := 40) (f := (vF 98)) hx hb hK hP 99 98 (WR_get 98 (by decide)) (TR_get 98 (by decide)) (vp_in_nI (show a5 < 40 by omega) (by omega)) dX12_send_140 ?_
                            refine lv_topi (fun y12 hy12 => ?_)
                            obtain rfl : ((vF 98) a5) = y12 := (hy12.trans (by rw [nI_clamp (by omega)])).symm
                            refine lv_iload hx hb dX12_send_141 (lv_at hl 6 rfl) ?_
                            refine lv_iconst (v := 1) hx hb dX12_send_143 (by decide) ?_
                            refine lv_iadd hx hb dX12_send_144 ?_
                            refine lv_topi (fun y13 hy13 => ?_)
                            obtain rfl : (nI (a5 + 1)) = y13 := (hy13.trans (nI_add a5 1)).symm
                            have hFc := allFree hD hS hA
                            refine va_calli (va_runV (As := [.int (nI x5), .int (nI yB), .int ((vF 98) a5), .int (nI (a5 + 1))]) (rest := []) ⟨hx, hb, hml, hown, hts⟩ (r_X12_relax l dC dI a k h0 vi vj (fT (fT (fT vF 99 f9) 100 pr2) 101 bY2) vG x5 yB ((vF 98) a5) (nI (a5 + 1)) (by first | with_reducible assumption | decide | omega | rfl | assumption) (by first | with_reducible assumption | decide | omega | rfl | assumption) (⟨hbx.1, hbx.2.1⟩) (⟨hby.1, hby.2.1⟩) (by first | with_reducible assumption | decide | omega | rfl | assumption) H.size) (cwV 4 hts gwsRX12_send_1 rfl rfl rfl hd_yX12_relax_RX12 (by decide +kernel)) (fz_pre (va_recv hK hP (ci := 12) (q0 := 0) rfl rfl) hP hK hD) rfl rfl hl.1 rfl (lv_room (Nat.le_of_ble_eq_true rfl)) dX12_send_145 (by decide +kernel)) hS (fun q _ h => hFc q h) hFc (fun r145 u t9_ H locs ht hvm hw9 hB9 hz1 hk1 hS => ?_)
                            revert u hw9 hB9
                            refine fz_p2 ?_
                            intro g100145 g101145 hw9 hB9
                            try dsimp only at hw9 hB9
                            have e9F : fT (fT (fT vF 99 f9) 100 g100145) 101 g101145 = fT (fT (fT (fT (fT vF 99 f9) 100 pr2) 101 bY2) 100 g100145) 101 g101145 := ((congrArg (fun g9 => fT g9 101 g101145) ((fT_sw _ _ _ (Nat.ne_of_beq_eq_false rfl)).trans (congrArg (fun g9 => fT g9 101 bY2) (fT_sm _ _ _ _)))).trans (fT_sm _ _ _ _)).symm
                            have hP := wr_PF e9F (fz_P ht hB9.1)
                            have hD := wr_DF e9F (hB9.2.weaken (fun _ q _ h => hFc q.1 h))
                            clear e9F
                            rcases hw9 with ⟨rfl, f145_0, f145_1, f145_2, f145_3, f145_4, f145_5⟩ | ⟨rfl, f145_0, f145_1, f145_2⟩
                            · have f145_0 : pr2 x5 ≠ 536870912 := f145_0
                              have f145_1 : (pr2 x5).toInt + (((vF 98) a5)).toInt < (pr2 yB).toInt := f145_1
                              have f145_2 : (g100145 yB).toInt = (pr2 x5).toInt + (((vF 98) a5)).toInt := f145_2
                              have f145_3 : ∀ w, w ≠ yB → g100145 w = pr2 w := f145_3
                              have f145_5 : ∀ w, w ≠ yB → g101145 w = bY2 w := f145_5
                              obtain ⟨hBfn, hSn⟩ := hBf2.relax hpR hps hx5 hyB hxy5 (by omega) ⟨by omega, Or.inl ⟨by rw [nI_toInt (by omega)]; omega, ex5, eyB, by omega, rfl⟩⟩ (fun h9 => hpo.1 (by omega) h9) f145_0 f145_1 f145_2 f145_3 f145_4 f145_5
                              refine lv_if_ne (tgt := 156) hx hb dX12_send_148 (by decide) (fun _ => ?_) (fun c9 => absurd c9 (by decide))
                              refine lv_iconst (v := 1) hx hb dX12_send_156 (by decide) ?_
                              refine lv_goto (tgt := 161) hx hb dX12_send_157 (by decide) ?_
                              refine lv_istore hx hb dX12_send_161 hl (by decide) rfl (fun ls (hl : lv_has ls _ ([(6, .int 1), (0, .ref h0), (1, .int (nI sN)), (2, .int (nI tN)), (3, .int am), (4, .int (nI sn)), (7, .int (nI a5))])) => ?_)
                              have hl : lv_has _ _ ([(0, .ref h0), (1, .int (nI sN)), (2, .int (nI tN)), (3, .int am), (4, .int (nI sn)), (6, .int 1), (7, .int (nI a5))]) := lv_sub hl [1, 2, 3, 4, 5, 0, 6] rfl
                              exact join1 _ _ _ _ ⟨1, g100145, g101145, (fun w => if w = yB then tm2 + 1 else T2 w), (tm2 + 1), hBfn, by rcases hM2 with ⟨h1, h2⟩ | h1; (exact Or.inr (by omega)); (exact Or.inr (by omega)), fun h9 => absurd h9 (by decide), rfl, hP, hD, hS, hl⟩
                            · have f145_0 : g100145 = pr2 := f145_0
                              have f145_1 : g101145 = bY2 := f145_1
                              have f145_2 : pr2 x5 ≠ 536870912 → (pr2 yB).toInt ≤ (pr2 x5).toInt + (((vF 98) a5)).toInt := f145_2
                              refine lv_if_ne (tgt := 156) hx hb dX12_send_148 (by decide) (fun c9 => absurd c9 (by decide)) (fun _ => ?_)
                              refine lv_iload hx hb dX12_send_151 (lv_at hl 5 rfl) ?_
                              refine lv_if_eq (tgt := 160) hx hb dX12_send_153 (by decide) (fun c_153 => ?_) (fun c_153 => ?_)
                              · have t_153 : (l2).toInt = 0 := toI_eq c_153 rfl (by decide)
                                refine lv_iconst (v := 0) hx hb dX12_send_160 (by decide) ?_
                                refine lv_istore hx hb dX12_send_161 hl (by decide) rfl (fun ls (hl : lv_has ls _ ([(6, .int 0), (0, .ref h0), (1, .int (nI sN)), (2, .int (nI tN)), (3, .int am), (4, .int (nI sn)), (7, .int (nI a5))])) => ?_)
                                have hl : lv_has _ _ ([(0, .ref h0), (1, .int (nI sN)), (2, .int (nI tN)), (3, .int am), (4, .int (nI sn)), (6, .int 0), (7, .int (nI a5))]) := lv_sub hl [1, 2, 3, 4, 5, 0, 6] rfl
                                exact join1 _ _ _ _ ⟨0, g100145, g101145, T2, tm2, by rw [f145_0, f145_1]; exact hBf2, by rw [f145_0]; rcases hM2 with ⟨h1, h2⟩ | h1; (exact Or.inl ⟨rfl, h2⟩); (exact Or.inr h1), fun _ => by rw [f145_0]; exact ⟨hCl c_153, fun _ h7 => f145_2 h7⟩, rfl, hP, hD, hS, hl⟩
                              · have t_153 : ¬ (l2).toInt = 0 := toI_neq c_153 rfl (by decide)
                                refine lv_iconst (v := 1) hx hb dX12_send_156 (by decide) ?_
                                refine lv_goto (tgt := 161) hx hb dX12_send_157 (by decide) ?_
                                refine lv_istore hx hb dX12_send_161 hl (by decide) rfl (fun ls (hl : lv_has ls _ ([(6, .int 1), (0, .ref h0), (1, .int (nI sN)), (2, .int (nI tN)), (3, .int am), (4, .int (nI sn)), (7, .int (nI a5))])) => ?_)
                                have hl : lv_has _ _ ([(0, .ref h0), (1, .int (nI sN)), (2, .int (nI tN)), (3, .int am), (4, .int (nI sn)), (6, .int 1), (7, .int (nI a5))]) := lv_sub hl [1, 2, 3, 4, 5, 0, 6] rfl
                                exact join1 _ _ _ _ ⟨1, g100145, g101145, T2, tm2, by rw [f145_0, f145_1]; exact hBf2, by rw [f145_0]; exact Or.inr (hM2.resolve_left (fun h => c_153 h.1)), fun h9 => absurd h9 (by decide), rfl, hP, hD, hS, hl⟩
                        · rintro H locs ls stk ⟨l3, pr3, bY3, T3, tm3, hBf3, hM3, hCl3, rfl, hP, hD, hS, hl⟩
                          have hbx3 := hBf3.1.bd hpR hx5
                          have hby3 := hBf3.1.bd hpR hyB
                          have hnc := (neg32 (x := vF 98 a5) (b := 1000) (by omega) (by decide)).2
                          refine lv_aload_n hx hb dX12_send_163 rfl (lv_at hl 0 rfl) ?_
                          refine va_get (D := (dC, dI)) (ci := 12) (v := .ref (a 99)) (C := RX12) (T := TX12) (N := 163) (fs := fM (vS a vi vj)) hx hb hts iwsRX12_send_in12 hown hK hP 0 rfl rfl 155 (by decide) (hts _ hm_r_X12_send_3) (fun _ h9 => h9) rfl dX12_send_164 ?_
                          refine lv_iload hx hb dX12_send_167 (lv_at hl 6 rfl) ?_
                          refine va_iald (cA := k 99) (n := 40) (f := f9) hx hb hK hP 100 99 (WR_get 99 (by decide)) (TR_get 99 (by decide)) (vp_in_nI (show a5 < 40 by omega) (by omega)) dX12_send_169 ?_
                          refine lv_topi (fun y14 hy14 => ?_)
                          obtain rfl : (f9 a5) = y14 := (hy14.trans (by rw [nI_clamp (by omega)])).symm
                          refine W.cut (pc := 219) (fun H locs ls stk => ∃ (l4 : Int32) (pr4 : Nat → Int32) (bY4 : Nat → Int32) (T4 : Nat → Nat) (tm4 : Nat), (BfI (vF 95) (vF 96) (vF 97) (vF 98) f9 ar sN RR pp pr4 bY4 T4 tm4) ∧ ((l4 = 0 ∧ sPr pr4 ≤ sPr pr1) ∨ sPr pr4 < sPr pr1) ∧ (l4 = 0 → PrC (vF 95) (vF 96) (vF 97) (vF 98) f9 (a5 + 1) pr4) ∧  stk = [] ∧ va_P (dC, dI) vwCl (WR a k h0 vi vj (fT (fT (fT vF 99 f9) 100 pr4) 101 bY4) vG) H ∧ va_D A (WR a k h0 vi vj (fT (fT (fT vF 99 f9) 100 pr4) 101 bY4) vG) ∧ va_S A s.heap H locs ∧ lv_has ls 8 [(0, .ref h0), (1, .int (nI sN)), (2, .int (nI tN)), (3, .int am), (4, .int (nI sn)), (6, .int l4), (7, .int (nI a5))]) (fun join2 => ?_) ?_
                          · refine lv_if_le (tgt := 219) hx hb dX12_send_170 (by decide) (fun c_170 => ?_) (fun c_170 => ?_)
                            · have t_170 : ((f9 a5)).toInt ≤ 0 := toI_le c_170 rfl (by decide)
                              have hl : lv_has _ _ ([(0, .ref h0), (1, .int (nI sN)), (2, .int (nI tN)), (3, .int am), (4, .int (nI sn)), (6, .int l3), (7, .int (nI a5))]) := lv_sub hl [0, 1, 2, 3, 4, 5, 6] rfl
                              exact join2 _ _ _ _ ⟨l3, pr3, bY3, T3, tm3, hBf3, hM3, fun h9 => fun a9 x9 z9 k1 k2 k3 k4 k5 => by by_cases e9 : a9 = a5; (subst e9; (have ezx : x9 = x5 := (nI_eq (by omega) (by omega)).mp (k4.symm.trans ex5)); (have ezy : z9 = yB := (nI_eq (by omega) (by omega)).mp (k5.symm.trans eyB)); subst ezx ezy; exact ⟨(hCl3 h9).2, fun h8 => absurd h8 (by omega)⟩); (exact (hCl3 h9).1 a9 x9 z9 (by omega) k2 k3 k4 k5), rfl, hP, hD, hS, hl⟩
                            · have t_170 : ¬ ((f9 a5)).toInt ≤ 0 := toI_nle c_170 rfl (by decide)
                              refine lv_aload_n hx hb dX12_send_173 rfl (lv_at hl 0 rfl) ?_
                              refine lv_aload_n hx hb dX12_send_174 rfl (lv_at hl 0 rfl) ?_
                              refine va_get (D := (dC, dI)) (ci := 12) (v := .ref (a 96)) (C := RX12) (T := TX12) (N := 163) (fs := fM (vS a vi vj)) hx hb hts iwsRX12_send_in12 hown hK hP 0 rfl rfl 152 (by decide) (hts _ hm_r_X12_send_5) (fun _ h9 => h9) rfl dX12_send_175 ?_
                              refine lv_iload hx hb dX12_send_178 (lv_at hl 6 rfl) ?_
                              refine va_iald (cA := k 96) (n := 40) (f := (vF 96)) hx hb hK hP 97 96 (WR_get 96 (by decide)) (TR_get 96 (by decide)) (vp_in_nI (show a5 < 40 by omega) (by omega)) dX12_send_180 ?_
                              refine lv_topi (fun y15 hy15 => ?_)
                              obtain rfl : ((vF 96) a5) = y15 := (hy15.trans (by rw [nI_clamp (by omega)])).symm
                              refine lv_topi (fun y16 hy16 => ?_)
                              obtain rfl : (nI yB) = y16 := (hy16.trans (eyB)).symm
                              refine lv_aload_n hx hb dX12_send_181 rfl (lv_at hl 0 rfl) ?_
                              refine va_get (D := (dC, dI)) (ci := 12) (v := .ref (a 95)) (C := RX12) (T := TX12) (N := 163) (fs := fM (vS a vi vj)) hx hb hts iwsRX12_send_in12 hown hK hP 0 rfl rfl 151 (by decide) (hts _ hm_r_X12_send_4) (fun _ h9 => h9) rfl dX12_send_182 ?_
                              refine lv_iload hx hb dX12_send_185 (lv_at hl 6 rfl) ?_
                              refine va_iald (cA := k 95) (n := 40) (f := (vF 95)) hx hb hK hP 96 95 (WR_get 95 (by decide)) (TR_get 95 (by decide)) (vp_in_nI (show a5 < 40 by omega) (by omega)) dX12_send_187 ?_
                              refine lv_topi (fun y17 hy17 => ?_)
                              obtain rfl : ((vF 95) a5) = y17 := (hy17.trans (by rw [nI_clamp (by omega)])).symm
                              refine lv_topi (fun y18 hy18 => ?_)
                              obtain rfl : (nI x5) = y18 := (hy18.trans (ex5)).symm
                              refine lv_aload_n hx hb dX12_send_188 rfl (lv_at hl 0 rfl) ?_
                              refine va_get (D := (dC, dI)) (ci := 12) (v := .ref (a 98)) (C := RX12) (T := TX12) (N := 163) (fs := fM (vS a vi vj)) hx hb hts iwsRX12_send_in12 hown hK hP 0 rfl rfl 154 (by decide) (hts _ hm_r_X12_send_6) (fun _ h9 => h9) rfl dX12_send_189 ?_
                              refine lv_iload hx hb dX12_send_192 (lv_at hl 6 rfl) ?_
                              refine va_iald (cA := k 98) (n := 40) (f := (vF 98)) hx hb hK hP 99 98 (WR_get 98 (by decide)) (TR_get 98 (by decide)) (vp_in_nI (show a5 < 40 by omega) (by omega)) dX12_send_194 ?_
                              refine lv_topi (fun y19 hy19 => ?_)
                              obtain rfl : ((vF 98) a5) = y19 := (hy19.trans (by rw [nI_clamp (by omega)])).symm
                              refine lv_ineg hx hb dX12_send_195 ?_
                              refine lv_iload hx hb dX12_send_196 (lv_at hl 6 rfl) ?_
                              refine lv_ineg hx hb dX12_send_198 ?_
                              refine lv_iconst (v := 1) hx hb dX12_send_199 (by decide) ?_
                              refine lv_isub hx hb dX12_send_200 ?_
                              have hFc := allFree hD hS hA
                              refine va_calli (va_runV (As := [.int (nI yB), .int (nI x5), .int (-((vF 98) a5)), .int ((-(nI a5)) - 1)]) (rest := []) ⟨hx, hb, hml, hown, hts⟩ (r_X12_relax l dC dI a k h0 vi vj (fT (fT (fT vF 99 f9) 100 pr3) 101 bY3) vG yB x5 (-((vF 98) a5)) ((-(nI a5)) - 1) (by first | with_reducible assumption | decide | omega | rfl | assumption) (by first | with_reducible assumption | decide | omega | rfl | assumption) (⟨hby3.1, hby3.2.1⟩) (⟨hbx3.1, hbx3.2.1⟩) (by rw [hnc]; omega) H.size) (cwV 4 hts gwsRX12_send_1 rfl rfl rfl hd_yX12_relax_RX12 (by decide +kernel)) (fz_pre (va_recv hK hP (ci := 12) (q0 := 0) rfl rfl) hP hK hD) rfl rfl hl.1 rfl (lv_room (Nat.le_of_ble_eq_true rfl)) dX12_send_201 (by decide +kernel)) hS (fun q _ h => hFc q h) hFc (fun r201 u t9_ H locs ht hvm hw9 hB9 hz1 hk1 hS => ?_)
                              revert u hw9 hB9
                              refine fz_p2 ?_
                              intro g100201 g101201 hw9 hB9
                              try dsimp only at hw9 hB9
                              have e9F : fT (fT (fT vF 99 f9) 100 g100201) 101 g101201 = fT (fT (fT (fT (fT vF 99 f9) 100 pr3) 101 bY3) 100 g100201) 101 g101201 := ((congrArg (fun g9 => fT g9 101 g101201) ((fT_sw _ _ _ (Nat.ne_of_beq_eq_false rfl)).trans (congrArg (fun g9 => fT g9 101 bY3) (fT_sm _ _ _ _)))).trans (fT_sm _ _ _ _)).symm
                              have hP := wr_PF e9F (fz_P ht hB9.1)
                              have hD := wr_DF e9F (hB9.2.weaken (fun _ q _ h => hFc q.1 h))
                              clear e9F
                              rcases hw9 with ⟨rfl, f201_0, f201_1, f201_2, f201_3, f201_4, f201_5⟩ | ⟨rfl, f201_0, f201_1, f201_2⟩
                              · have f201_0 : pr3 yB ≠ 536870912 := f201_0
                                have f201_1 : (pr3 yB).toInt + ((-((vF 98) a5))).toInt < (pr3 x5).toInt := f201_1
                                have f201_2 : (g100201 x5).toInt = (pr3 yB).toInt + ((-((vF 98) a5))).toInt := f201_2
                                have f201_3 : ∀ w, w ≠ x5 → g100201 w = pr3 w := f201_3
                                have f201_5 : ∀ w, w ≠ x5 → g101201 w = bY3 w := f201_5
                                obtain ⟨hBfn, hSn⟩ := hBf3.relax (c := (-(vF 98 a5)).toInt) hpR hps hyB hx5 (Ne.symm hxy5) (by omega) ⟨by omega, Or.inr ⟨bneg (by omega), eyB, ex5, by omega, hnc⟩⟩ (fun h9 => by rw [hnc]; (have h8 := hpo.2 (by omega) h9); exact ⟨h8.1, by omega⟩) f201_0 f201_1 f201_2 f201_3 f201_4 f201_5
                                refine lv_if_ne (tgt := 212) hx hb dX12_send_204 (by decide) (fun _ => ?_) (fun c9 => absurd c9 (by decide))
                                refine lv_iconst (v := 1) hx hb dX12_send_212 (by decide) ?_
                                refine lv_goto (tgt := 217) hx hb dX12_send_213 (by decide) ?_
                                refine lv_istore hx hb dX12_send_217 hl (by decide) rfl (fun ls (hl : lv_has ls _ ([(6, .int 1), (0, .ref h0), (1, .int (nI sN)), (2, .int (nI tN)), (3, .int am), (4, .int (nI sn)), (7, .int (nI a5))])) => ?_)
                                have hl : lv_has _ _ ([(0, .ref h0), (1, .int (nI sN)), (2, .int (nI tN)), (3, .int am), (4, .int (nI sn)), (6, .int 1), (7, .int (nI a5))]) := lv_sub hl [1, 2, 3, 4, 5, 0, 6] rfl
                                exact join2 _ _ _ _ ⟨1, g100201, g101201, (fun w => if w = x5 then tm3 + 1 else T3 w), (tm3 + 1), hBfn, by rcases hM3 with ⟨h1, h2⟩ | h1; (exact Or.inr (by omega)); (exact Or.inr (by omega)), fun h9 => absurd h9 (by decide), rfl, hP, hD, hS, hl⟩
                              · have f201_0 : g100201 = pr3 := f201_0
                                have f201_1 : g101201 = bY3 := f201_1
                                have f201_2 : pr3 yB ≠ 536870912 → (pr3 x5).toInt ≤ (pr3 yB).toInt + ((-((vF 98) a5))).toInt := f201_2
                                refine lv_if_ne (tgt := 212) hx hb dX12_send_204 (by decide) (fun c9 => absurd c9 (by decide)) (fun _ => ?_)
                                refine lv_iload hx hb dX12_send_207 (lv_at hl 5 rfl) ?_
                                refine lv_if_eq (tgt := 216) hx hb dX12_send_209 (by decide) (fun c_209 => ?_) (fun c_209 => ?_)
                                · have t_209 : (l3).toInt = 0 := toI_eq c_209 rfl (by decide)
                                  refine lv_iconst (v := 0) hx hb dX12_send_216 (by decide) ?_
                                  refine lv_istore hx hb dX12_send_217 hl (by decide) rfl (fun ls (hl : lv_has ls _ ([(6, .int 0), (0, .ref h0), (1, .int (nI sN)), (2, .int (nI tN)), (3, .int am), (4, .int (nI sn)), (7, .int (nI a5))])) => ?_)
                                  have hl : lv_has _ _ ([(0, .ref h0), (1, .int (nI sN)), (2, .int (nI tN)), (3, .int am), (4, .int (nI sn)), (6, .int 0), (7, .int (nI a5))]) := lv_sub hl [1, 2, 3, 4, 5, 0, 6] rfl
                                  exact join2 _ _ _ _ ⟨0, g100201, g101201, T3, tm3, by rw [f201_0, f201_1]; exact hBf3, by rw [f201_0]; rcases hM3 with ⟨h1, h2⟩ | h1; (exact Or.inl ⟨rfl, h2⟩); (exact Or.inr h1), fun _ => by rw [f201_0]; exact fun a9 x9 z9 k1 k2 k3 k4 k5 => by by_cases e9 : a9 = a5; (subst e9; (have ezx : x9 = x5 := (nI_eq (by omega) (by omega)).mp (k4.symm.trans ex5)); (have ezy : z9 = yB := (nI_eq (by omega) (by omega)).mp (k5.symm.trans eyB)); subst ezx ezy; exact ⟨(hCl3 c_209).2, fun _ h7 => by (have h6 := f201_2 h7); rw [hnc] at h6; omega⟩); (exact (hCl3 c_209).1 a9 x9 z9 (by omega) k2 k3 k4 k5), rfl, hP, hD, hS, hl⟩
                                · have t_209 : ¬ (l3).toInt = 0 := toI_neq c_209 rfl (by decide)
                                  refine lv_iconst (v := 1) hx hb dX12_send_212 (by decide) ?_
                                  refine lv_goto (tgt := 217) hx hb dX12_send_213 (by decide) ?_
                                  refine lv_istore hx hb dX12_send_217 hl (by decide) rfl (fun ls (hl : lv_has ls _ ([(6, .int 1), (0, .ref h0), (1, .int (nI sN)), (2, .int (nI tN)), (3, .int am), (4, .int (nI sn)), (7, .int (nI a5))])) => ?_)
                                  have hl : lv_has _ _ ([(0, .ref h0), (1, .int (nI sN)), (2, .int (nI tN)), (3, .int am), (4, .int (nI sn)), (6, .int 1), (7, .int (nI a5))]) := lv_sub hl [1, 2, 3, 4, 5, 0, 6] rfl
                                  exact join2 _ _ _ _ ⟨1, g100201, g101201, T3, tm3, by rw [f201_0, f201_1]; exact hBf3, by rw [f201_0]; exact Or.inr (hM3.resolve_left (fun h => c_209 h.1)), fun h9 => absurd h9 (by decide), rfl, hP, hD, hS, hl⟩
                          · rintro H locs ls stk ⟨l4, pr4, bY4, T4, tm4, hBf4, hM4, hCl4, rfl, hP, hD, hS, hl⟩
                            refine lv_iinc (v := (nI (a5 + 1))) hx hb dX12_send_219 hl (k := 6) rfl (nI_add a5 1) (by decide) rfl (fun ls (hl : lv_has ls _ ([(7, .int (nI (a5 + 1))), (0, .ref h0), (1, .int (nI sN)), (2, .int (nI tN)), (3, .int am), (4, .int (nI sn)), (6, .int l4)])) => ?_)
                            refine lv_goto (tgt := 93) hx hb dX12_send_222 (by decide) ?_
                            have hl : lv_has _ _ ([(0, .ref h0), (1, .int (nI sN)), (2, .int (nI tN)), (3, .int am), (4, .int (nI sn)), (6, .int l4), (7, .int (nI (a5 + 1)))]) := lv_sub hl [1, 2, 3, 4, 5, 6, 0] rfl
                            exact ih93_4 (a5 + 1) l4 pr4 bY4 T4 tm4 _ _ _ (by omega) (hBf4) (hM4) (hCl4) (by omega) hP hD hS hl
              · have t_50 : ¬ ((n1 : Nat) : Int) ≥ 12 := toI_nge c_50 (nI_toInt (by omega)) (by decide)
                refine lv_aload_n hx hb dX12_send_53 rfl (lv_at hl 0 rfl) ?_
                refine va_get (D := (dC, dI)) (ci := 12) (v := .ref (a 100)) (C := RX12) (T := TX12) (N := 163) (fs := fM (vS a vi vj)) hx hb hts iwsRX12_send_in12 hown hK hP 0 rfl rfl 156 (by decide) (hts _ hm_r_X12_send_1) (fun _ h9 => h9) rfl dX12_send_54 ?_
                refine lv_iload hx hb dX12_send_57 (lv_at hl 5 rfl) ?_
                refine lv_iload hx hb dX12_send_59 (lv_at hl 5 rfl) ?_
                refine lv_iload_n hx hb dX12_send_61 rfl (lv_at hl 1 rfl) ?_
                refine W.cut (pc := 72) (fun H locs ls stk => ∃ (v9 : Int32), (v9 = if n1 = sN then 0 else 536870912) ∧  stk = [.int v9, .int (nI n1), .ref (a 100)] ∧ va_P (dC, dI) vwCl (WR a k h0 vi vj (fT (fT (fT vF 99 f9) 100 f1) 101 x4_F101) vG) H ∧ va_D A (WR a k h0 vi vj (fT (fT (fT vF 99 f9) 100 f1) 101 x4_F101) vG) ∧ va_S A s.heap H locs ∧ lv_has ls 8 [(0, .ref h0), (1, .int (nI sN)), (2, .int (nI tN)), (3, .int am), (4, .int (nI sn)), (6, .int (nI n1))]) (fun join3 => ?_) ?_
                · refine lv_icmp_ne (tgt := 69) hx hb dX12_send_62 (by decide) (fun c_62 => ?_) (fun c_62 => ?_)
                  · have t_62 : ((n1 : Nat) : Int) ≠ ((sN : Nat) : Int) := toI_ne c_62 (nI_toInt (by omega)) (nI_toInt (by omega))
                    refine lv_ldcw (v := 536870912) hx hb hown (hts _ hm_r_X12_send_2) dX12_send_69 ?_
                    have hl : lv_has _ _ ([(0, .ref h0), (1, .int (nI sN)), (2, .int (nI tN)), (3, .int am), (4, .int (nI sn)), (6, .int (nI n1))]) := lv_sub hl [0, 1, 2, 3, 4, 5] rfl
                    exact join3 _ _ _ _ ⟨536870912, by rw [if_neg (fun e9 => c_62 (by rw [e9]))], rfl, hP, hD, hS, hl⟩
                  · have t_62 : ((n1 : Nat) : Int) = ((sN : Nat) : Int) := toI_nne c_62 (nI_toInt (by omega)) (nI_toInt (by omega))
                    refine lv_iconst (v := 0) hx hb dX12_send_65 (by decide) ?_
                    refine lv_goto (tgt := 72) hx hb dX12_send_66 (by decide) ?_
                    have hl : lv_has _ _ ([(0, .ref h0), (1, .int (nI sN)), (2, .int (nI tN)), (3, .int am), (4, .int (nI sn)), (6, .int (nI n1))]) := lv_sub hl [0, 1, 2, 3, 4, 5] rfl
                    exact join3 _ _ _ _ ⟨0, by rw [if_pos ((nI_eq (by omega) (by omega)).mp c_62)], rfl, hP, hD, hS, hl⟩
                · rintro H locs ls stk ⟨v9, hj9, rfl, hP, hD, hS, hl⟩
                  refine va_iast (cA := k 100) (n := 12) (f := f1) hx hb hK hP hD hS 101 100 (WR_get 100 (by decide)) (TR_get 100 (by decide)) (vp_in_nI (show n1 < 12 by omega) (by omega)) dX12_send_72 (fun H locs hP hD hS => ?_)
                  have e9 : fT (fT (fT vF 99 f9) 100 (upd f1 ((nI n1)).toNatClampNeg v9)) 101 x4_F101 = fT (fT (fT (fT vF 99 f9) 100 f1) 101 x4_F101) 100 (upd f1 ((nI n1)).toNatClampNeg v9) := ((fT_sw _ _ _ (Nat.ne_of_beq_eq_false rfl)).trans (congrArg (fun g9 => fT g9 101 x4_F101) (fT_sm _ _ _ _))).symm
                  have hP := wr_PF e9 (fz_w (WR_F 100 (by decide) _ rfl) hP)
                  have hD := wr_DF e9 (fz_wD (WR_F 100 (by decide) _ rfl) hD)
                  clear e9
                  refine lv_iinc (v := (nI (n1 + 1))) hx hb dX12_send_73 hl (k := 5) rfl (nI_add n1 1) (by decide) rfl (fun ls (hl : lv_has ls _ ([(6, .int (nI (n1 + 1))), (0, .ref h0), (1, .int (nI sN)), (2, .int (nI tN)), (3, .int am), (4, .int (nI sn))])) => ?_)
                  refine lv_goto (tgt := 46) hx hb dX12_send_76 (by decide) ?_
                  have hl : lv_has _ _ ([(0, .ref h0), (1, .int (nI sN)), (2, .int (nI tN)), (3, .int am), (4, .int (nI sn)), (6, .int (nI (n1 + 1)))]) := lv_sub hl [1, 2, 3, 4, 5, 0] rfl
                  exact ih46_2 (n1 + 1) (upd f1 ((nI n1)).toNatClampNeg v9) _ _ _ (by omega) (fun n hn => by rw [upd_at (by omega)]; by_cases e9 : n = n1; (rw [if_pos e9, e9]; exact hj9); (rw [if_neg e9]; exact hz1 n (by omega))) (by omega) hP hD hS hl
    · have t_9 : ¬ ((k5 : Nat) : Int) ≥ ((ar : Nat) : Int) := toI_nge c_9 (nI_toInt (by omega)) (nI_toInt (by omega))
      refine lv_aload_n hx hb dX12_send_12 rfl (lv_at hl 0 rfl) ?_
      refine va_get (D := (dC, dI)) (ci := 12) (v := .ref (a 99)) (C := RX12) (T := TX12) (N := 163) (fs := fM (vS a vi vj)) hx hb hts iwsRX12_send_in12 hown hK hP 0 rfl rfl 155 (by decide) (hts _ hm_r_X12_send_3) (fun _ h9 => h9) rfl dX12_send_13 ?_
      refine lv_iload hx hb dX12_send_16 (lv_at hl 4 rfl) ?_
      refine lv_iconst (v := 0) hx hb dX12_send_18 (by decide) ?_
      refine va_iast (cA := k 99) (n := 40) (f := f0) hx hb hK hP hD hS 100 99 (WR_get 99 (by decide)) (TR_get 99 (by decide)) (vp_in_nI (show k5 < 40 by omega) (by omega)) dX12_send_19 (fun H locs hP hD hS => ?_)
      have e9 : fT vF 99 (upd f0 ((nI k5)).toNatClampNeg 0) = fT (fT vF 99 f0) 99 (upd f0 ((nI k5)).toNatClampNeg 0) := (fT_sm _ _ _ _).symm
      have hP := wr_PF e9 (fz_w (WR_F 99 (by decide) _ rfl) hP)
      have hD := wr_DF e9 (fz_wD (WR_F 99 (by decide) _ rfl) hD)
      clear e9
      refine lv_iinc (v := (nI (k5 + 1))) hx hb dX12_send_20 hl (k := 4) rfl (nI_add k5 1) (by decide) rfl (fun ls (hl : lv_has ls _ ([(4, .int (nI (k5 + 1))), (0, .ref h0), (1, .int (nI sN)), (2, .int (nI tN)), (3, .int am)])) => ?_)
      refine lv_goto (tgt := 3) hx hb dX12_send_23 (by decide) ?_
      have hl : lv_has _ _ ([(0, .ref h0), (1, .int (nI sN)), (2, .int (nI tN)), (3, .int am), (4, .int (nI (k5 + 1)))]) := lv_sub hl [1, 2, 3, 4, 0] rfl
      exact ih3 (k5 + 1) (upd f0 ((nI k5)).toNatClampNeg 0) _ _ _ (by omega) (fun a ha => by rw [upd_at (by omega)]; by_cases e9 : a = k5; (rw [if_pos e9]); (rw [if_neg e9]; exact hz0 a (by omega))) (by omega) hP hD hS hl
end
section
theorem hd_yX12_send_RX12 : yX12_send.cls = RX12 ∧ yX12_send.cls ≠ "java/lang/invoke/MethodHandle" ∧ yX12_send.cls ≠ "java/lang/invoke/VarHandle" ∧ (parseMethodDescriptor yX12_send.desc).map (fun d => d.parameters.length) = some 3 := by decide +kernel
theorem dX12_greatest_0 : decode cX12_greatest 0 = .ok (.aload_n 0, 1) := dk_42 (by decide +kernel)
theorem dX12_greatest_1 : decode cX12_greatest 1 = .ok (.iload_n 1, 1) := dk_27 (by decide +kernel)
theorem dX12_greatest_2 : decode cX12_greatest 2 = .ok (.iload_n 2, 1) := dk_28 (by decide +kernel)
theorem dX12_greatest_3 : decode cX12_greatest 3 = .ok (.invokevirtual 1079, 3) := dk_182 (by decide +kernel)
theorem dX12_greatest_6 : decode cX12_greatest 6 = .ok (.ifCond .eq 15, 3) := dk_153 (by decide +kernel)
theorem dX12_greatest_9 : decode cX12_greatest 9 = .ok (.aload_n 0, 1) := dk_42 (by decide +kernel)
theorem dX12_greatest_10 : decode cX12_greatest 10 = .ok (.iload_n 1, 1) := dk_27 (by decide +kernel)
theorem dX12_greatest_11 : decode cX12_greatest 11 = .ok (.iload_n 2, 1) := dk_28 (by decide +kernel)
theorem dX12_greatest_12 : decode cX12_greatest 12 = .ok (.ldc_w 1082, 3) := dk_19 (by decide +kernel)
theorem dX12_greatest_15 : decode cX12_greatest 15 = .ok (.invokevirtual 1083, 3) := dk_182 (by decide +kernel)
theorem dX12_greatest_18 : decode cX12_greatest 18 = .ok (.goto 4, 3) := dk_167 (by decide +kernel)
theorem dX12_greatest_21 : decode cX12_greatest 21 = .ok (.iconst 0, 1) := dk_3 (by decide +kernel)
theorem dX12_greatest_22 : decode cX12_greatest 22 = .ok (.ireturn, 1) := dk_172 (by decide +kernel)
def wsRX12_greatest : List Cond := .code yX12_greatest cX12_greatest 3 (some .int) :: ([.constant RX12 1082 100000] ++ wsX120 ++ (wsV RX12 1079 RX12 yX12_areEnds wsRX12_areEnds) ++ (wsV RX12 1083 RX12 yX12_send wsRX12_send))
theorem iwsRX12_greatest_in12 : ∀ w ∈ wsX120, w ∈ wsRX12_greatest := fun _ h => List.mem_cons_of_mem _ (List.mem_append_left _ (List.mem_append_left _ (List.mem_append_right _ h)))
theorem gwsRX12_greatest_0 : GoodIn wsRX12_greatest (wsV RX12 1079 RX12 yX12_areEnds wsRX12_areEnds) := goodIn_sub (fun _ h => List.mem_cons_of_mem _ (List.mem_append_left _ (List.mem_append_right _ h))) (gdV (by decide +kernel) gdwsRX12_areEnds)
theorem gwsRX12_greatest_1 : GoodIn wsRX12_greatest (wsV RX12 1083 RX12 yX12_send wsRX12_send) := goodIn_sub (fun _ h => List.mem_cons_of_mem _ (List.mem_append_right _ h)) (gdV (by decide +kernel) gdwsRX12_send)
theorem gdwsRX12_greatest : wsRX12_greatest.all goodWord = true := gdC rfl (gdA (gdA (gdA (by decide +kernel : ([.constant RX12 1082 100000] : List Cond).all goodWord = true) gdwsX120) (gdV (by decide +kernel) gdwsRX12_areEnds)) (gdV (by decide +kernel) gdwsRX12_send))
set_option maxHeartbeats 4000000 in
set_option maxRecDepth 100000 in
/-- greatest(s, t) -/
theorem r_X12_greatest (l : Launch) (dC : Nat → ClassId) (dI : Nat → Nat → Nat) (a : Nat → Nat) (k : Nat → ClassId) (h0 : Nat) (vi : Nat → Int32) (vj : Nat → Int64) (vF : Nat → Nat → Int32) (vG : Nat → Nat → Int64) (sI : Int32) (tI : Int32) (ar : Nat) (har : vi 150 = nI ar) (har40 : ar ≤ 40) (hAr : ArO (vF 95) (vF 96) (vF 97) (vF 98) ar) (sz : Nat) : Met l yX12_greatest wsRX12_greatest ({ frames := 2, cells := 0, slots := 0, locals := 54 }) (va_Pc [.ref h0, .int sI, .int tI] (fun U => U.heap.size = sz ∧ va_P (dC, dI) vwCl (WR a k h0 vi vj vF vG) U.heap ∧ va_K (dC, dI) vwCl (tX12 k) U ∧ va_D (fun _ => True) (WR a k h0 vi vj vF vG))) (va_Qi (fun (r : Int32) (u : (Int32) × (Nat → Int32) × (Nat → Int32) × (Nat → Int32)) => ((((u.1) = 1 ∧ ¬ ((0 ≤ (sI).toInt ∧ (sI).toInt ≤ 11) ∧ 0 ≤ (tI).toInt ∧ (tI).toInt ≤ 11)) ∨ ((u.1) = 2 ∧ ((0 ≤ (sI).toInt ∧ (sI).toInt ≤ 11) ∧ 0 ≤ (tI).toInt ∧ (tI).toInt ≤ 11) ∧ (sI).toInt = (tI).toInt))) ∨ (((u.1) = 0) ∧ (((0 ≤ (sI).toInt ∧ (sI).toInt ≤ 11) ∧ 0 ≤ (tI).toInt ∧ (tI).toInt ≤ 11) ∧ (sI).toInt ≠ (tI).toInt) ∧ (mxF (((ar : Nat) : Int), vF 95, vF 96, vF 97, vF 98) (sI).toInt.toNat (tI).toInt.toNat r.toInt))) (fun (u : (Int32) × (Nat → Int32) × (Nat → Int32) × (Nat → Int32)) t => va_P (dC, dI) vwCl (WR a k h0 (fT vi 0 (u.1)) vj (fT (fT (fT vF 99 (u.2.1)) 100 (u.2.2.1)) 101 (u.2.2.2)) vG) t.heap ∧ va_D (va_A (WR a k h0 vi vj vF vG) sz) (WR a k h0 (fT vi 0 (u.1)) vj (fT (fT (fT vF 99 (u.2.1)) 100 (u.2.2.1)) 101 (u.2.2.2)) vG)) (va_A (WR a k h0 vi vj vF vG) sz)) 0 0 (va_A (WR a k h0 vi vj vF vG) sz) := by
  refine Met.ofW (cc := cX12_greatest) (maxL := 3) (ret := (some .int)) (by decide) rfl ?_
  intro p e s m args below meth c s₁ B hml hv
  obtain ⟨rfl, hsz, hP, hK, hD0⟩ := hv
  have hx := B.exec
  have hb := B.bytes
  have hr := B.returns
  have hts := atoms_spec (ws := wsRX12_greatest) B.pre
  have hown : s.vm.findClass RX12 = some m.cls := findClass_of_methodNamed B.named
  have hlocks := B.notSynchronized
  subst hsz
  have hD := hD0.self (sz := s.heap.size)
  generalize hAe : va_A (WR a k h0 vi vj vF vG) s.heap.size = A at hD ⊢
  have hA : ∀ q : Nat, s.heap.size ≤ q → A q := fun q h => by rw [← hAe]; exact Or.inr h
  have hS : va_S A s.heap s.heap [] := va_S.rf
  have hl := lv_entry ([.ref h0, .int sI, .int tI]) (n := 3) (Nat.le_of_ble_eq_true rfl)
  rw [lg_entry_eq]
  generalize (lg_sl ([.ref h0, .int sI, .int tI]) ++ List.replicate (3 - (lg_sl ([.ref h0, .int sI, .int tI])).length) Slot.unset).toArray = ls at hl ⊢
  have hl : lv_has ls 3 [(0, .ref h0), (1, .int sI), (2, .int tI)] := hl
  refine lv_aload_n hx hb dX12_greatest_0 rfl (lv_at hl 0 rfl) ?_
  refine lv_iload_n hx hb dX12_greatest_1 rfl (lv_at hl 1 rfl) ?_
  refine lv_iload_n hx hb dX12_greatest_2 rfl (lv_at hl 2 rfl) ?_
  have hFc := allFree hD hS hA
  refine va_calli (va_runV (As := [.int sI, .int tI]) (rest := []) ⟨hx, hb, hml, hown, hts⟩ (r_X12_areEnds l dC dI a k h0 vi vj vF vG sI tI s.heap.size) (cwV 2 hts gwsRX12_greatest_0 rfl rfl rfl hd_yX12_areEnds_RX12 (by decide +kernel)) (fz_pre (va_recv hK hP (ci := 12) (q0 := 0) rfl rfl) hP hK hD) rfl rfl hl.1 rfl (lv_room (Nat.le_of_ble_eq_true rfl)) dX12_greatest_3 (by decide +kernel)) hS (fun q _ h => hFc q h) hFc (fun r3 th3 t9_ H locs ht hvm hw9 hB9 hz1 hk1 hS => ?_)
  have hP : va_P (dC, dI) vwCl (WR a k h0 (fT vi 0 th3) vj vF vG) H := fz_P ht hB9.1
  have hD := fz_sd hP (hB9.2.weaken (fun _ q _ h => hFc q.1 h)) rfl
  rcases hw9 with ⟨rfl, f3_0, f3_1, f3_2, f3_3⟩ | ⟨rfl, f3_0⟩
  · refine lv_if_eq (tgt := 21) hx hb dX12_greatest_6 (by decide) (fun c9 => absurd c9 (by decide)) (fun _ => ?_)
    obtain ⟨sN, hsN, esN⟩ := of_toInt (x := sI) (k := 12) (by omega) (by omega)
    subst esN
    obtain ⟨tN, htN, etN⟩ := of_toInt (x := tI) (k := 12) (by omega) (by omega)
    subst etN
    have htsn : tN ≠ sN := fun e9 => f3_2 (by rw [e9])
    have es9 : (nI sN).toInt.toNat = sN := by rw [nI_toInt (by omega)]; omega
    have et9 : (nI tN).toInt.toNat = tN := by rw [nI_toInt (by omega)]; omega
    refine lv_aload_n hx hb dX12_greatest_9 rfl (lv_at hl 0 rfl) ?_
    refine lv_iload_n hx hb dX12_greatest_10 rfl (lv_at hl 1 rfl) ?_
    refine lv_iload_n hx hb dX12_greatest_11 rfl (lv_at hl 2 rfl) ?_
    refine lv_ldcw (v := 100000) hx hb hown (hts (.constant RX12 1082 100000) (by decide +kernel)) dX12_greatest_12 ?_
    have hFc := allFree hD hS hA
    refine va_calli (va_runV (As := [.int (nI sN), .int (nI tN), .int 100000]) (rest := []) ⟨hx, hb, hml, hown, hts⟩ (r_X12_send l dC dI a k h0 (fT vi 0 th3) vj vF vG ar sN tN 100000 har (by first | with_reducible assumption | decide | omega | rfl | assumption) (by first | with_reducible assumption | decide | omega | rfl | assumption) (by first | with_reducible assumption | decide | omega | rfl | assumption) (by first | with_reducible assumption | decide | omega | rfl | assumption) (by first | with_reducible assumption | decide | omega | rfl | assumption) H.size) (cwV 3 hts gwsRX12_greatest_1 rfl rfl rfl hd_yX12_send_RX12 (by decide +kernel)) (fz_pre (va_recv hK hP (ci := 12) (q0 := 0) rfl rfl) hP hK hD) rfl rfl hl.1 rfl (lv_room (Nat.le_of_ble_eq_true rfl)) dX12_greatest_15 (by decide +kernel)) hS (fun q _ h => hFc q h) hFc (fun r15 u t9_ H locs ht hvm hw9 hB9 hz1 hk1 hS => ?_)
    revert u hw9 hB9
    refine fz_p3 ?_
    intro g9915 g10015 g10115 hw9 hB9
    try dsimp only at hw9 hB9
    have hP : va_P (dC, dI) vwCl (WR a k h0 (fT vi 0 th3) vj (fT (fT (fT vF 99 g9915) 100 g10015) 101 g10115) vG) H := fz_P ht hB9.1
    have hD := fz_sd hP (hB9.2.weaken (fun _ q _ h => hFc q.1 h)) rfl
    revert hw9
    refine fz_a6 ?_
    intro f15_0 f15_1 f15_2 f15_3 f15_4 f15_5
    have f15_0 : FlO (vF 97) g9915 ar := f15_0
    have f15_1 : rsI (((ar : Nat) : Int), (vF 95), (vF 96), (vF 97), (vF 98)) sN tN (fI g9915) r15.toInt ar := f15_1
    have f15_2 : r15.toInt < (100000 : Int32).toInt → ∃ R, sep sN tN R ∧ flC (((ar : Nat) : Int), (vF 95), (vF 96), (vF 97), (vF 98)) (fI g9915) R ar := f15_2
    have f15_4 : ∃ p, PoO (vF 95) (vF 96) (vF 97) (vF 98) g9915 ar (fun _ => True) p := f15_4
    refine lv_goto (tgt := 22) hx hb dX12_greatest_18 (by decide) ?_
    refine W.widen (k := 0) (n := 0) (by decide +kernel) (by decide +kernel) ?_
    exact W.iret (v := r15) hx hb hr (fun t9_ ht hW => ⟨⟨r15, (th3, g9915, g10015, g10115), rfl, by (try dsimp only); exact Or.inr ⟨f3_3, ⟨by omega, fun e9 => f3_2 (Int32.toInt_inj.mp e9)⟩, by rw [es9, et9]; exact rsI.great hAr har40 f15_0 htsn f15_1 f15_2 (by decide)⟩, by rw [ht]; exact hP, hD⟩, hS.F ht⟩) hS.2.2 dX12_greatest_22
  · refine lv_if_eq (tgt := 21) hx hb dX12_greatest_6 (by decide) (fun _ => ?_) (fun c9 => absurd (by decide) c9)
    refine lv_iconst (v := 0) hx hb dX12_greatest_21 (by decide) ?_
    refine W.widen (k := 0) (n := 0) (by decide +kernel) (by decide +kernel) ?_
    have e9 : fT (fT (fT vF 99 (vF 99)) 100 (vF 100)) 101 (vF 101) = vF := (fT_id _ _ ((fT_ne _ _ (Nat.ne_of_beq_eq_false rfl)).trans (fT_ne _ _ (Nat.ne_of_beq_eq_false rfl)))).trans ((fT_id _ _ (fT_ne _ _ (Nat.ne_of_beq_eq_false rfl))).trans (fT_id _ _ (rfl)))
    have hP := wr_PF e9 hP
    have hD := wr_DF e9 hD
    clear e9
    exact W.iret (v := 0) hx hb hr (fun t9_ ht hW => ⟨⟨0, (th3, (vF 99), (vF 100), (vF 101)), rfl, by (try dsimp only); exact Or.inl f3_0, by rw [ht]; exact hP, hD⟩, hS.F ht⟩) hS.2.2 dX12_greatest_22
theorem dX12_cheapest_0 : decode cX12_cheapest 0 = .ok (.aload_n 0, 1) := dk_42 (by decide +kernel)
theorem dX12_cheapest_1 : decode cX12_cheapest 1 = .ok (.iload_n 1, 1) := dk_27 (by decide +kernel)
theorem dX12_cheapest_2 : decode cX12_cheapest 2 = .ok (.iload_n 2, 1) := dk_28 (by decide +kernel)
theorem dX12_cheapest_3 : decode cX12_cheapest 3 = .ok (.invokevirtual 1079, 3) := dk_182 (by decide +kernel)
theorem dX12_cheapest_6 : decode cX12_cheapest 6 = .ok (.ifCond .ne 5, 3) := dk_154 (by decide +kernel)
theorem dX12_cheapest_9 : decode cX12_cheapest 9 = .ok (.iconst 0, 1) := dk_3 (by decide +kernel)
theorem dX12_cheapest_10 : decode cX12_cheapest 10 = .ok (.ireturn, 1) := dk_172 (by decide +kernel)
theorem dX12_cheapest_11 : decode cX12_cheapest 11 = .ok (.iload_n 3, 1) := dk_29 (by decide +kernel)
theorem dX12_cheapest_12 : decode cX12_cheapest 12 = .ok (.ifCond .lt 14, 3) := dk_155 (by decide +kernel)
theorem dX12_cheapest_15 : decode cX12_cheapest 15 = .ok (.aload_n 0, 1) := dk_42 (by decide +kernel)
theorem dX12_cheapest_16 : decode cX12_cheapest 16 = .ok (.iload_n 1, 1) := dk_27 (by decide +kernel)
theorem dX12_cheapest_17 : decode cX12_cheapest 17 = .ok (.iload_n 2, 1) := dk_28 (by decide +kernel)
theorem dX12_cheapest_18 : decode cX12_cheapest 18 = .ok (.iload_n 3, 1) := dk_29 (by decide +kernel)
theorem dX12_cheapest_19 : decode cX12_cheapest 19 = .ok (.invokevirtual 1083, 3) := dk_182 (by decide +kernel)
theorem dX12_cheapest_22 : decode cX12_cheapest 22 = .ok (.iload_n 3, 1) := dk_29 (by decide +kernel)
theorem dX12_cheapest_23 : decode cX12_cheapest 23 = .ok (.if_icmp .ge 5, 3) := dk_162 (by decide +kernel)
theorem dX12_cheapest_26 : decode cX12_cheapest 26 = .ok (.iconst (-1), 1) := dk_2 (by decide +kernel)
theorem dX12_cheapest_27 : decode cX12_cheapest 27 = .ok (.ireturn, 1) := dk_172 (by decide +kernel)
theorem dX12_cheapest_28 : decode cX12_cheapest 28 = .ok (.iconst 0, 1) := dk_3 (by decide +kernel)
theorem dX12_cheapest_29 : decode cX12_cheapest 29 = .ok (.istore 4, 2) := dk_54 (by decide +kernel)
theorem dX12_cheapest_31 : decode cX12_cheapest 31 = .ok (.iconst 0, 1) := dk_3 (by decide +kernel)
theorem dX12_cheapest_32 : decode cX12_cheapest 32 = .ok (.istore 5, 2) := dk_54 (by decide +kernel)
theorem dX12_cheapest_34 : decode cX12_cheapest 34 = .ok (.iload 5, 2) := dk_21 (by decide +kernel)
theorem dX12_cheapest_36 : decode cX12_cheapest 36 = .ok (.aload_n 0, 1) := dk_42 (by decide +kernel)
theorem dX12_cheapest_37 : decode cX12_cheapest 37 = .ok (.getfield 1069, 3) := dk_180 (by decide +kernel)
theorem dX12_cheapest_40 : decode cX12_cheapest 40 = .ok (.if_icmp .ge 29, 3) := dk_162 (by decide +kernel)
theorem dX12_cheapest_43 : decode cX12_cheapest 43 = .ok (.iload 4, 2) := dk_21 (by decide +kernel)
theorem dX12_cheapest_45 : decode cX12_cheapest 45 = .ok (.aload_n 0, 1) := dk_42 (by decide +kernel)
theorem dX12_cheapest_46 : decode cX12_cheapest 46 = .ok (.getfield 324, 3) := dk_180 (by decide +kernel)
theorem dX12_cheapest_49 : decode cX12_cheapest 49 = .ok (.iload 5, 2) := dk_21 (by decide +kernel)
theorem dX12_cheapest_51 : decode cX12_cheapest 51 = .ok (.iaload, 1) := dk_46 (by decide +kernel)
theorem dX12_cheapest_52 : decode cX12_cheapest 52 = .ok (.aload_n 0, 1) := dk_42 (by decide +kernel)
theorem dX12_cheapest_53 : decode cX12_cheapest 53 = .ok (.getfield 321, 3) := dk_180 (by decide +kernel)
theorem dX12_cheapest_56 : decode cX12_cheapest 56 = .ok (.iload 5, 2) := dk_21 (by decide +kernel)
theorem dX12_cheapest_58 : decode cX12_cheapest 58 = .ok (.iaload, 1) := dk_46 (by decide +kernel)
theorem dX12_cheapest_59 : decode cX12_cheapest 59 = .ok (.imul, 1) := dk_104 (by decide +kernel)
theorem dX12_cheapest_60 : decode cX12_cheapest 60 = .ok (.iadd, 1) := dk_96 (by decide +kernel)
theorem dX12_cheapest_61 : decode cX12_cheapest 61 = .ok (.istore 4, 2) := dk_54 (by decide +kernel)
theorem dX12_cheapest_63 : decode cX12_cheapest 63 = .ok (.iinc 5 1, 3) := dk_132 (by decide +kernel)
theorem dX12_cheapest_66 : decode cX12_cheapest 66 = .ok (.goto (-32), 3) := dk_167 (by decide +kernel)
theorem dX12_cheapest_69 : decode cX12_cheapest 69 = .ok (.iload 4, 2) := dk_21 (by decide +kernel)
theorem dX12_cheapest_71 : decode cX12_cheapest 71 = .ok (.ireturn, 1) := dk_172 (by decide +kernel)
def wsRX12_cheapest : List Cond := .code yX12_cheapest cX12_cheapest 6 (some .int) :: ([.fieldLink RX12 1069 "OptimaWorksModel" "arcs" "I", .fieldLink RX12 324 "OptimaWorksModel" "flow" "[I", .fieldLink RX12 321 "OptimaWorksModel" "arcCost" "[I"] ++ wsX120 ++ (wsV RX12 1079 RX12 yX12_areEnds wsRX12_areEnds) ++ (wsV RX12 1083 RX12 yX12_send wsRX12_send))
theorem iwsRX12_cheapest_in12 : ∀ w ∈ wsX120, w ∈ wsRX12_cheapest := fun _ h => List.mem_cons_of_mem _ (List.mem_append_left _ (List.mem_append_left _ (List.mem_append_right _ h)))
theorem gwsRX12_cheapest_0 : GoodIn wsRX12_cheapest (wsV RX12 1079 RX12 yX12_areEnds wsRX12_areEnds) := goodIn_sub (fun _ h => List.mem_cons_of_mem _ (List.mem_append_left _ (List.mem_append_right _ h))) (gdV (by decide +kernel) gdwsRX12_areEnds)
theorem gwsRX12_cheapest_1 : GoodIn wsRX12_cheapest (wsV RX12 1083 RX12 yX12_send wsRX12_send) := goodIn_sub (fun _ h => List.mem_cons_of_mem _ (List.mem_append_right _ h)) (gdV (by decide +kernel) gdwsRX12_send)
theorem gdwsRX12_cheapest : wsRX12_cheapest.all goodWord = true := gdC rfl (gdA (gdA (gdA (by decide +kernel : ([.fieldLink RX12 1069 "OptimaWorksModel" "arcs" "I", .fieldLink RX12 324 "OptimaWorksModel" "flow" "[I", .fieldLink RX12 321 "OptimaWorksModel" "arcCost" "[I"] : List Cond).all goodWord = true) gdwsX120) (gdV (by decide +kernel) gdwsRX12_areEnds)) (gdV (by decide +kernel) gdwsRX12_send))
set_option maxHeartbeats 4000000 in
set_option maxRecDepth 100000 in
/-- cheapest(s, t, amount) -/
theorem r_X12_cheapest (l : Launch) (dC : Nat → ClassId) (dI : Nat → Nat → Nat) (a : Nat → Nat) (k : Nat → ClassId) (h0 : Nat) (vi : Nat → Int32) (vj : Nat → Int64) (vF : Nat → Nat → Int32) (vG : Nat → Nat → Int64) (amI : Int32) (sI : Int32) (tI : Int32) (ar : Nat) (har : vi 150 = nI ar) (har40 : ar ≤ 40) (hAr : ArO (vF 95) (vF 96) (vF 97) (vF 98) ar) (sz : Nat) : Met l yX12_cheapest wsRX12_cheapest ({ frames := 2, cells := 0, slots := 0, locals := 54 }) (va_Pc [.ref h0, .int sI, .int tI, .int amI] (fun U => U.heap.size = sz ∧ va_P (dC, dI) vwCl (WR a k h0 vi vj vF vG) U.heap ∧ va_K (dC, dI) vwCl (tX12 k) U ∧ va_D (fun _ => True) (WR a k h0 vi vj vF vG))) (va_Qi (fun (r : Int32) (u : (Int32) × (Nat → Int32) × (Nat → Int32) × (Nat → Int32)) => ((((u.1) = 1 ∧ ¬ ((0 ≤ (sI).toInt ∧ (sI).toInt ≤ 11) ∧ 0 ≤ (tI).toInt ∧ (tI).toInt ≤ 11)) ∨ ((u.1) = 2 ∧ ((0 ≤ (sI).toInt ∧ (sI).toInt ≤ 11) ∧ 0 ≤ (tI).toInt ∧ (tI).toInt ≤ 11) ∧ (sI).toInt = (tI).toInt))) ∨ (((u.1) = 0) ∧ (((0 ≤ (sI).toInt ∧ (sI).toInt ≤ 11) ∧ 0 ≤ (tI).toInt ∧ (tI).toInt ≤ 11) ∧ (sI).toInt ≠ (tI).toInt) ∧ (mnC (((ar : Nat) : Int), vF 95, vF 96, vF 97, vF 98) (sI).toInt.toNat (tI).toInt.toNat (amI).toInt r.toInt))) (fun (u : (Int32) × (Nat → Int32) × (Nat → Int32) × (Nat → Int32)) t => va_P (dC, dI) vwCl (WR a k h0 (fT vi 0 (u.1)) vj (fT (fT (fT vF 99 (u.2.1)) 100 (u.2.2.1)) 101 (u.2.2.2)) vG) t.heap ∧ va_D (va_A (WR a k h0 vi vj vF vG) sz) (WR a k h0 (fT vi 0 (u.1)) vj (fT (fT (fT vF 99 (u.2.1)) 100 (u.2.2.1)) 101 (u.2.2.2)) vG)) (va_A (WR a k h0 vi vj vF vG) sz)) 0 0 (va_A (WR a k h0 vi vj vF vG) sz) := by
  refine Met.ofW (cc := cX12_cheapest) (maxL := 6) (ret := (some .int)) (by decide) rfl ?_
  intro p e s m args below meth c s₁ B hml hv
  obtain ⟨rfl, hsz, hP, hK, hD0⟩ := hv
  have hx := B.exec
  have hb := B.bytes
  have hr := B.returns
  have hts := atoms_spec (ws := wsRX12_cheapest) B.pre
  have hown : s.vm.findClass RX12 = some m.cls := findClass_of_methodNamed B.named
  have hlocks := B.notSynchronized
  subst hsz
  have hD := hD0.self (sz := s.heap.size)
  generalize hAe : va_A (WR a k h0 vi vj vF vG) s.heap.size = A at hD ⊢
  have hA : ∀ q : Nat, s.heap.size ≤ q → A q := fun q h => by rw [← hAe]; exact Or.inr h
  have hS : va_S A s.heap s.heap [] := va_S.rf
  have hl := lv_entry ([.ref h0, .int sI, .int tI, .int amI]) (n := 6) (Nat.le_of_ble_eq_true rfl)
  rw [lg_entry_eq]
  generalize (lg_sl ([.ref h0, .int sI, .int tI, .int amI]) ++ List.replicate (6 - (lg_sl ([.ref h0, .int sI, .int tI, .int amI])).length) Slot.unset).toArray = ls at hl ⊢
  have hl : lv_has ls 6 [(0, .ref h0), (1, .int sI), (2, .int tI), (3, .int amI)] := hl
  refine lv_aload_n hx hb dX12_cheapest_0 rfl (lv_at hl 0 rfl) ?_
  refine lv_iload_n hx hb dX12_cheapest_1 rfl (lv_at hl 1 rfl) ?_
  refine lv_iload_n hx hb dX12_cheapest_2 rfl (lv_at hl 2 rfl) ?_
  have hFc := allFree hD hS hA
  refine va_calli (va_runV (As := [.int sI, .int tI]) (rest := []) ⟨hx, hb, hml, hown, hts⟩ (r_X12_areEnds l dC dI a k h0 vi vj vF vG sI tI s.heap.size) (cwV 2 hts gwsRX12_cheapest_0 rfl rfl rfl hd_yX12_areEnds_RX12 (by decide +kernel)) (fz_pre (va_recv hK hP (ci := 12) (q0 := 0) rfl rfl) hP hK hD) rfl rfl hl.1 rfl (lv_room (Nat.le_of_ble_eq_true rfl)) dX12_cheapest_3 (by decide +kernel)) hS (fun q _ h => hFc q h) hFc (fun r3 th3 t9_ H locs ht hvm hw9 hB9 hz1 hk1 hS => ?_)
  have hP : va_P (dC, dI) vwCl (WR a k h0 (fT vi 0 th3) vj vF vG) H := fz_P ht hB9.1
  have hD := fz_sd hP (hB9.2.weaken (fun _ q _ h => hFc q.1 h)) rfl
  rcases hw9 with ⟨rfl, f3_0, f3_1, f3_2, f3_3⟩ | ⟨rfl, f3_0⟩
  · refine lv_if_ne (tgt := 11) hx hb dX12_cheapest_6 (by decide) (fun _ => ?_) (fun c9 => absurd c9 (by decide))
    obtain ⟨sN, hsN, esN⟩ := of_toInt (x := sI) (k := 12) (by omega) (by omega)
    subst esN
    obtain ⟨tN, htN, etN⟩ := of_toInt (x := tI) (k := 12) (by omega) (by omega)
    subst etN
    have htsn : tN ≠ sN := fun e9 => f3_2 (by rw [e9])
    have es9 : (nI sN).toInt.toNat = sN := by rw [nI_toInt (by omega)]; omega
    have et9 : (nI tN).toInt.toNat = tN := by rw [nI_toInt (by omega)]; omega
    refine lv_iload_n hx hb dX12_cheapest_11 rfl (lv_at hl 3 rfl) ?_
    refine lv_if_lt (tgt := 26) hx hb dX12_cheapest_12 (by decide) (fun c_12 => ?_) (fun c_12 => ?_)
    · have t_12 : (amI).toInt < 0 := toI_lt c_12 rfl (by decide)
      refine lv_iconst (v := (-1)) hx hb dX12_cheapest_26 (by decide) ?_
      refine W.widen (k := 0) (n := 0) (by decide +kernel) (by decide +kernel) ?_
      have e9 : fT (fT (fT vF 99 (vF 99)) 100 (vF 100)) 101 (vF 101) = vF := (fT_id _ _ ((fT_ne _ _ (Nat.ne_of_beq_eq_false rfl)).trans (fT_ne _ _ (Nat.ne_of_beq_eq_false rfl)))).trans ((fT_id _ _ (fT_ne _ _ (Nat.ne_of_beq_eq_false rfl))).trans (fT_id _ _ (rfl)))
      have hP := wr_PF e9 hP
      have hD := wr_DF e9 hD
      clear e9
      exact W.iret (v := (-1)) hx hb hr (fun t9_ ht hW => ⟨⟨(-1), (th3, (vF 99), (vF 100), (vF 101)), rfl, by (try dsimp only); exact Or.inr ⟨f3_3, ⟨by omega, fun e9 => f3_2 (Int32.toInt_inj.mp e9)⟩, by rw [es9, et9]; exact Or.inl ⟨t_12, by decide⟩⟩, by rw [ht]; exact hP, hD⟩, hS.F ht⟩) hS.2.2 dX12_cheapest_27
    · have t_12 : ¬ (amI).toInt < 0 := toI_nlt c_12 rfl (by decide)
      refine lv_aload_n hx hb dX12_cheapest_15 rfl (lv_at hl 0 rfl) ?_
      refine lv_iload_n hx hb dX12_cheapest_16 rfl (lv_at hl 1 rfl) ?_
      refine lv_iload_n hx hb dX12_cheapest_17 rfl (lv_at hl 2 rfl) ?_
      refine lv_iload_n hx hb dX12_cheapest_18 rfl (lv_at hl 3 rfl) ?_
      have hFc := allFree hD hS hA
      refine va_calli (va_runV (As := [.int (nI sN), .int (nI tN), .int amI]) (rest := []) ⟨hx, hb, hml, hown, hts⟩ (r_X12_send l dC dI a k h0 (fT vi 0 th3) vj vF vG ar sN tN amI har (by first | with_reducible assumption | decide | omega | rfl | assumption) (by first | with_reducible assumption | decide | omega | rfl | assumption) (by first | with_reducible assumption | decide | omega | rfl | assumption) (by first | with_reducible assumption | decide | omega | rfl | assumption) (by first | with_reducible assumption | decide | omega | rfl | assumption) H.size) (cwV 3 hts gwsRX12_cheapest_1 rfl rfl rfl hd_yX12_send_RX12 (by decide +kernel)) (fz_pre (va_recv hK hP (ci := 12) (q0 := 0) rfl rfl) hP hK hD) rfl rfl hl.1 rfl (lv_room (Nat.le_of_ble_eq_true rfl)) dX12_cheapest_19 (by decide +kernel)) hS (fun q _ h => hFc q h) hFc (fun r19 u t9_ H locs ht hvm hw9 hB9 hz1 hk1 hS => ?_)
      revert u hw9 hB9
      refine fz_p3 ?_
      intro g9919 g10019 g10119 hw9 hB9
      try dsimp only at hw9 hB9
      have hP : va_P (dC, dI) vwCl (WR a k h0 (fT vi 0 th3) vj (fT (fT (fT vF 99 g9919) 100 g10019) 101 g10119) vG) H := fz_P ht hB9.1
      have hD := fz_sd hP (hB9.2.weaken (fun _ q _ h => hFc q.1 h)) rfl
      revert hw9
      refine fz_a6 ?_
      intro f19_0 f19_1 f19_2 f19_3 f19_4 f19_5
      have f19_0 : FlO (vF 97) g9919 ar := f19_0
      have f19_1 : rsI (((ar : Nat) : Int), (vF 95), (vF 96), (vF 97), (vF 98)) sN tN (fI g9919) r19.toInt ar := f19_1
      have f19_2 : r19.toInt < (amI : Int32).toInt → ∃ R, sep sN tN R ∧ flC (((ar : Nat) : Int), (vF 95), (vF 96), (vF 97), (vF 98)) (fI g9919) R ar := f19_2
      have f19_4 : ∃ p, PoO (vF 95) (vF 96) (vF 97) (vF 98) g9919 ar (fun _ => True) p := f19_4
      refine lv_iload_n hx hb dX12_cheapest_22 rfl (lv_at hl 3 rfl) ?_
      refine lv_icmp_ge (tgt := 28) hx hb dX12_cheapest_23 (by decide) (fun c_23 => ?_) (fun c_23 => ?_)
      · have t_23 : (r19).toInt ≥ (amI).toInt := toI_ge c_23 rfl rfl
        refine lv_iconst (v := 0) hx hb dX12_cheapest_28 (by decide) ?_
        refine lv_istore hx hb dX12_cheapest_29 hl (by decide) rfl (fun ls (hl : lv_has ls _ ([(4, .int 0), (0, .ref h0), (1, .int (nI sN)), (2, .int (nI tN)), (3, .int amI)])) => ?_)
        refine lv_iconst (v := 0) hx hb dX12_cheapest_31 (by decide) ?_
        refine lv_istore hx hb dX12_cheapest_32 hl (by decide) rfl (fun ls (hl : lv_has ls _ ([(5, .int 0), (4, .int 0), (0, .ref h0), (1, .int (nI sN)), (2, .int (nI tN)), (3, .int amI)])) => ?_)
        have hl : lv_has _ _ ([(0, .ref h0), (4, .int 0), (5, .int (nI 0))]) := lv_sub hl [2, 1, 0] rfl
        refine (fun (loop : ∀ (n9 : Nat) (a5 : Nat) (nq : Int32) (H : Heap) (locs : List Loc) (ls : Array Slot), (a5 ≤ ar) → ((nq).toInt = csA (((ar : Nat) : Int), vF 95, vF 96, vF 97, vF 98) (fI g9919) a5 ∧ 0 ≤ (nq).toInt ∧ (nq).toInt ≤ 1000000 * ((a5 : Nat) : Int)) →  (ar < a5 + n9) → va_P (dC, dI) vwCl (WR a k h0 (fT vi 0 th3) vj (fT (fT (fT vF 99 g9919) 100 g10019) 101 g10119) vG) H → va_D A (WR a k h0 (fT vi 0 th3) vj (fT (fT (fT vF 99 g9919) 100 g10019) 101 g10119) vG) → va_S A s.heap H locs → lv_has ls 6 [(0, .ref h0), (4, .int nq), (5, .int (nI a5))] → W p l e _ s m _ below meth c H locs 0 0 _ (F0 m 34 ls [])) => loop (ar + 1) 0 0 _ _ _ (by omega) (⟨(show (0 : Int32).toInt = 0 from by decide), by decide, by decide⟩) (by omega) hP hD hS hl) ?_
        intro n9
        induction n9 with
        | zero => intro a5 nq H locs ls ha5 hcs hf9; exact False.elim (by omega)
        | succ n9 ih34 =>
          intro a5 nq H locs ls ha5 hcs hf34 hP hD hS hl
          refine lv_iload hx hb dX12_cheapest_34 (lv_at hl 2 rfl) ?_
          refine lv_aload_n hx hb dX12_cheapest_36 rfl (lv_at hl 0 rfl) ?_
          refine va_get (D := (dC, dI)) (ci := 12) (v := .int (vi 150)) (C := RX12) (T := TX12) (N := 163) (fs := fM (vS a (fT vi 0 th3) vj)) hx hb hts iwsRX12_cheapest_in12 hown hK hP 0 rfl rfl 150 (by decide) (hts (.fieldLink RX12 1069 "OptimaWorksModel" "arcs" "I") (by decide +kernel)) (fun _ h9 => h9) rfl dX12_cheapest_37 ?_
          refine lv_topi (fun y1 hy1 => ?_)
          obtain rfl : (nI ar) = y1 := (hy1.trans (har)).symm
          refine lv_icmp_ge (tgt := 69) hx hb dX12_cheapest_40 (by decide) (fun c_40 => ?_) (fun c_40 => ?_)
          · have t_40 : ((a5 : Nat) : Int) ≥ ((ar : Nat) : Int) := toI_ge c_40 (nI_toInt (by omega)) (nI_toInt (by omega))
            refine lv_iload hx hb dX12_cheapest_69 (lv_at hl 1 rfl) ?_
            refine W.widen (k := 0) (n := 0) (by decide +kernel) (by decide +kernel) ?_
            exact W.iret (v := nq) hx hb hr (fun t9_ ht hW => ⟨⟨nq, (th3, g9919, g10019, g10119), rfl, by (try dsimp only); exact Or.inr ⟨f3_3, ⟨by omega, fun e9 => f3_2 (Int32.toInt_inj.mp e9)⟩, by rw [es9, et9]; exact mnC.some hAr f19_0 f19_1 f19_4 (by omega) (by omega) (by (have h9 := hcs.1); rw [show a5 = ar from by omega] at h9; exact h9)⟩, by rw [ht]; exact hP, hD⟩, hS.F ht⟩) hS.2.2 dX12_cheapest_71
          · have t_40 : ¬ ((a5 : Nat) : Int) ≥ ((ar : Nat) : Int) := toI_nge c_40 (nI_toInt (by omega)) (nI_toInt (by omega))
            obtain ⟨x5, yB, hx5, hyB, hxy5, ex5, eyB, hr5, hc5⟩ := hAr a5 (by omega)
            have hfl5 := f19_0 a5 (by omega)
            refine lv_iload hx hb dX12_cheapest_43 (lv_at hl 1 rfl) ?_
            refine lv_aload_n hx hb dX12_cheapest_45 rfl (lv_at hl 0 rfl) ?_
            refine va_get (D := (dC, dI)) (ci := 12) (v := .ref (a 99)) (C := RX12) (T := TX12) (N := 163) (fs := fM (vS a (fT vi 0 th3) vj)) hx hb hts iwsRX12_cheapest_in12 hown hK hP 0 rfl rfl 155 (by decide) (hts (.fieldLink RX12 324 "OptimaWorksModel" "flow" "[I") (by decide +kernel)) (fun _ h9 => h9) rfl dX12_cheapest_46 ?_
            refine lv_iload hx hb dX12_cheapest_49 (lv_at hl 2 rfl) ?_
            refine va_iald (cA := k 99) (n := 40) (f := g9919) hx hb hK hP 100 99 (WR_get 99 (by decide)) (TR_get 99 (by decide)) (vp_in_nI (show a5 < 40 by omega) (by omega)) dX12_cheapest_51 ?_
            refine lv_topi (fun y2 hy2 => ?_)
            obtain rfl : (g9919 a5) = y2 := (hy2.trans (by rw [nI_clamp (by omega)])).symm
            refine lv_aload_n hx hb dX12_cheapest_52 rfl (lv_at hl 0 rfl) ?_
            refine va_get (D := (dC, dI)) (ci := 12) (v := .ref (a 98)) (C := RX12) (T := TX12) (N := 163) (fs := fM (vS a (fT vi 0 th3) vj)) hx hb hts iwsRX12_cheapest_in12 hown hK hP 0 rfl rfl 154 (by decide) (hts (.fieldLink RX12 321 "OptimaWorksModel" "arcCost" "[I") (by decide +kernel)) (fun _ h9 => h9) rfl dX12_cheapest_53 ?_
            refine lv_iload hx hb dX12_cheapest_56 (lv_at hl 2 rfl) ?_
            refine va_iald (cA := k 98) (n := 40) (f := (vF 98)) hx hb hK hP 99 98 (WR_get 98 (by decide)) (TR_get 98 (by decide)) (vp_in_nI (show a5 < 40 by omega) (by omega)) dX12_cheapest_58 ?_
            refine lv_topi (fun y3 hy3 => ?_)
            obtain rfl : ((vF 98) a5) = y3 := (hy3.trans (by rw [nI_clamp (by omega)])).symm
            refine lv_imul hx hb dX12_cheapest_59 ?_
            refine lv_iadd hx hb dX12_cheapest_60 ?_
            refine lv_istore hx hb dX12_cheapest_61 hl (by decide) rfl (fun ls (hl : lv_has ls _ ([(4, .int (nq + ((g9919 a5) * ((vF 98) a5)))), (0, .ref h0), (5, .int (nI a5))])) => ?_)
            refine lv_iinc (v := (nI (a5 + 1))) hx hb dX12_cheapest_63 hl (k := 2) rfl (nI_add a5 1) (by decide) rfl (fun ls (hl : lv_has ls _ ([(5, .int (nI (a5 + 1))), (4, .int (nq + ((g9919 a5) * ((vF 98) a5)))), (0, .ref h0)])) => ?_)
            refine lv_goto (tgt := 34) hx hb dX12_cheapest_66 (by decide) ?_
            have hl : lv_has _ _ ([(0, .ref h0), (4, .int (nq + ((g9919 a5) * ((vF 98) a5)))), (5, .int (nI (a5 + 1)))]) := lv_sub hl [2, 1, 0] rfl
            exact ih34 (a5 + 1) (nq + ((g9919 a5) * ((vF 98) a5))) _ _ _ (by omega) (csA.step hcs (by omega) rfl rfl (by omega) hc5) (by omega) hP hD hS hl
      · have t_23 : ¬ (r19).toInt ≥ (amI).toInt := toI_nge c_23 rfl rfl
        refine lv_iconst (v := (-1)) hx hb dX12_cheapest_26 (by decide) ?_
        refine W.widen (k := 0) (n := 0) (by decide +kernel) (by decide +kernel) ?_
        exact W.iret (v := (-1)) hx hb hr (fun t9_ ht hW => ⟨⟨(-1), (th3, g9919, g10019, g10119), rfl, by (try dsimp only); exact Or.inr ⟨f3_3, ⟨by omega, fun e9 => f3_2 (Int32.toInt_inj.mp e9)⟩, by rw [es9, et9]; exact mnC.none f19_0 f19_1 f19_2 (by omega) (by omega) (by decide)⟩, by rw [ht]; exact hP, hD⟩, hS.F ht⟩) hS.2.2 dX12_cheapest_27
  · refine lv_if_ne (tgt := 11) hx hb dX12_cheapest_6 (by decide) (fun c9 => absurd c9 (by decide)) (fun _ => ?_)
    refine lv_iconst (v := 0) hx hb dX12_cheapest_9 (by decide) ?_
    refine W.widen (k := 0) (n := 0) (by decide +kernel) (by decide +kernel) ?_
    have e9 : fT (fT (fT vF 99 (vF 99)) 100 (vF 100)) 101 (vF 101) = vF := (fT_id _ _ ((fT_ne _ _ (Nat.ne_of_beq_eq_false rfl)).trans (fT_ne _ _ (Nat.ne_of_beq_eq_false rfl)))).trans ((fT_id _ _ (fT_ne _ _ (Nat.ne_of_beq_eq_false rfl))).trans (fT_id _ _ (rfl)))
    have hP := wr_PF e9 hP
    have hD := wr_DF e9 hD
    clear e9
    exact W.iret (v := 0) hx hb hr (fun t9_ ht hW => ⟨⟨0, (th3, (vF 99), (vF 100), (vF 101)), rfl, by (try dsimp only); exact Or.inl f3_0, by rw [ht]; exact hP, hD⟩, hS.F ht⟩) hS.2.2 dX12_cheapest_10
theorem dX12_cut_0 : decode cX12_cut 0 = .ok (.aload_n 0, 1) := dk_42 (by decide +kernel)
theorem dX12_cut_1 : decode cX12_cut 1 = .ok (.iload_n 1, 1) := dk_27 (by decide +kernel)
theorem dX12_cut_2 : decode cX12_cut 2 = .ok (.iload_n 2, 1) := dk_28 (by decide +kernel)
theorem dX12_cut_3 : decode cX12_cut 3 = .ok (.invokevirtual 1079, 3) := dk_182 (by decide +kernel)
theorem dX12_cut_6 : decode cX12_cut 6 = .ok (.ifCond .ne 5, 3) := dk_154 (by decide +kernel)
theorem dX12_cut_9 : decode cX12_cut 9 = .ok (.iconst 0, 1) := dk_3 (by decide +kernel)
theorem dX12_cut_10 : decode cX12_cut 10 = .ok (.ireturn, 1) := dk_172 (by decide +kernel)
theorem dX12_cut_11 : decode cX12_cut 11 = .ok (.aload_n 0, 1) := dk_42 (by decide +kernel)
theorem dX12_cut_12 : decode cX12_cut 12 = .ok (.iload_n 1, 1) := dk_27 (by decide +kernel)
theorem dX12_cut_13 : decode cX12_cut 13 = .ok (.iload_n 2, 1) := dk_28 (by decide +kernel)
theorem dX12_cut_14 : decode cX12_cut 14 = .ok (.ldc_w 1082, 3) := dk_19 (by decide +kernel)
theorem dX12_cut_17 : decode cX12_cut 17 = .ok (.invokevirtual 1083, 3) := dk_182 (by decide +kernel)
theorem dX12_cut_20 : decode cX12_cut 20 = .ok (.pop, 1) := dk_87 (by decide +kernel)
theorem dX12_cut_21 : decode cX12_cut 21 = .ok (.iconst 1, 1) := dk_4 (by decide +kernel)
theorem dX12_cut_22 : decode cX12_cut 22 = .ok (.iload_n 1, 1) := dk_27 (by decide +kernel)
theorem dX12_cut_23 : decode cX12_cut 23 = .ok (.ishl, 1) := dk_120 (by decide +kernel)
theorem dX12_cut_24 : decode cX12_cut 24 = .ok (.istore_n 3, 1) := dk_62 (by decide +kernel)
theorem dX12_cut_25 : decode cX12_cut 25 = .ok (.iconst 1, 1) := dk_4 (by decide +kernel)
theorem dX12_cut_26 : decode cX12_cut 26 = .ok (.istore 4, 2) := dk_54 (by decide +kernel)
theorem dX12_cut_28 : decode cX12_cut 28 = .ok (.iload 4, 2) := dk_21 (by decide +kernel)
theorem dX12_cut_30 : decode cX12_cut 30 = .ok (.ifCond .eq 169, 3) := dk_153 (by decide +kernel)
theorem dX12_cut_33 : decode cX12_cut 33 = .ok (.iconst 0, 1) := dk_3 (by decide +kernel)
theorem dX12_cut_34 : decode cX12_cut 34 = .ok (.istore 4, 2) := dk_54 (by decide +kernel)
theorem dX12_cut_36 : decode cX12_cut 36 = .ok (.iconst 0, 1) := dk_3 (by decide +kernel)
theorem dX12_cut_37 : decode cX12_cut 37 = .ok (.istore 5, 2) := dk_54 (by decide +kernel)
theorem dX12_cut_39 : decode cX12_cut 39 = .ok (.iload 5, 2) := dk_21 (by decide +kernel)
theorem dX12_cut_41 : decode cX12_cut 41 = .ok (.aload_n 0, 1) := dk_42 (by decide +kernel)
theorem dX12_cut_42 : decode cX12_cut 42 = .ok (.getfield 1069, 3) := dk_180 (by decide +kernel)
theorem dX12_cut_45 : decode cX12_cut 45 = .ok (.if_icmp .ge 151, 3) := dk_162 (by decide +kernel)
theorem dX12_cut_48 : decode cX12_cut 48 = .ok (.aload_n 0, 1) := dk_42 (by decide +kernel)
theorem dX12_cut_49 : decode cX12_cut 49 = .ok (.getfield 324, 3) := dk_180 (by decide +kernel)
theorem dX12_cut_52 : decode cX12_cut 52 = .ok (.iload 5, 2) := dk_21 (by decide +kernel)
theorem dX12_cut_54 : decode cX12_cut 54 = .ok (.iaload, 1) := dk_46 (by decide +kernel)
theorem dX12_cut_55 : decode cX12_cut 55 = .ok (.aload_n 0, 1) := dk_42 (by decide +kernel)
theorem dX12_cut_56 : decode cX12_cut 56 = .ok (.getfield 318, 3) := dk_180 (by decide +kernel)
theorem dX12_cut_59 : decode cX12_cut 59 = .ok (.iload 5, 2) := dk_21 (by decide +kernel)
theorem dX12_cut_61 : decode cX12_cut 61 = .ok (.iaload, 1) := dk_46 (by decide +kernel)
theorem dX12_cut_62 : decode cX12_cut 62 = .ok (.if_icmp .ge 36, 3) := dk_162 (by decide +kernel)
theorem dX12_cut_65 : decode cX12_cut 65 = .ok (.iload_n 3, 1) := dk_29 (by decide +kernel)
theorem dX12_cut_66 : decode cX12_cut 66 = .ok (.aload_n 0, 1) := dk_42 (by decide +kernel)
theorem dX12_cut_67 : decode cX12_cut 67 = .ok (.getfield 312, 3) := dk_180 (by decide +kernel)
theorem dX12_cut_70 : decode cX12_cut 70 = .ok (.iload 5, 2) := dk_21 (by decide +kernel)
theorem dX12_cut_72 : decode cX12_cut 72 = .ok (.iaload, 1) := dk_46 (by decide +kernel)
theorem dX12_cut_73 : decode cX12_cut 73 = .ok (.ishr, 1) := dk_122 (by decide +kernel)
theorem dX12_cut_74 : decode cX12_cut 74 = .ok (.iconst 1, 1) := dk_4 (by decide +kernel)
theorem dX12_cut_75 : decode cX12_cut 75 = .ok (.iand, 1) := dk_126 (by decide +kernel)
theorem dX12_cut_76 : decode cX12_cut 76 = .ok (.iconst 1, 1) := dk_4 (by decide +kernel)
theorem dX12_cut_77 : decode cX12_cut 77 = .ok (.if_icmp .ne 21, 3) := dk_160 (by decide +kernel)
theorem dX12_cut_80 : decode cX12_cut 80 = .ok (.iload_n 3, 1) := dk_29 (by decide +kernel)
theorem dX12_cut_81 : decode cX12_cut 81 = .ok (.aload_n 0, 1) := dk_42 (by decide +kernel)
theorem dX12_cut_82 : decode cX12_cut 82 = .ok (.getfield 315, 3) := dk_180 (by decide +kernel)
theorem dX12_cut_85 : decode cX12_cut 85 = .ok (.iload 5, 2) := dk_21 (by decide +kernel)
theorem dX12_cut_87 : decode cX12_cut 87 = .ok (.iaload, 1) := dk_46 (by decide +kernel)
theorem dX12_cut_88 : decode cX12_cut 88 = .ok (.ishr, 1) := dk_122 (by decide +kernel)
theorem dX12_cut_89 : decode cX12_cut 89 = .ok (.iconst 1, 1) := dk_4 (by decide +kernel)
theorem dX12_cut_90 : decode cX12_cut 90 = .ok (.iand, 1) := dk_126 (by decide +kernel)
theorem dX12_cut_91 : decode cX12_cut 91 = .ok (.ifCond .ne 7, 3) := dk_154 (by decide +kernel)
theorem dX12_cut_94 : decode cX12_cut 94 = .ok (.iconst 1, 1) := dk_4 (by decide +kernel)
theorem dX12_cut_95 : decode cX12_cut 95 = .ok (.goto 4, 3) := dk_167 (by decide +kernel)
theorem dX12_cut_98 : decode cX12_cut 98 = .ok (.iconst 0, 1) := dk_3 (by decide +kernel)
theorem dX12_cut_99 : decode cX12_cut 99 = .ok (.istore 6, 2) := dk_54 (by decide +kernel)
theorem dX12_cut_101 : decode cX12_cut 101 = .ok (.aload_n 0, 1) := dk_42 (by decide +kernel)
theorem dX12_cut_102 : decode cX12_cut 102 = .ok (.getfield 324, 3) := dk_180 (by decide +kernel)
theorem dX12_cut_105 : decode cX12_cut 105 = .ok (.iload 5, 2) := dk_21 (by decide +kernel)
theorem dX12_cut_107 : decode cX12_cut 107 = .ok (.iaload, 1) := dk_46 (by decide +kernel)
theorem dX12_cut_108 : decode cX12_cut 108 = .ok (.ifCond .le 36, 3) := dk_158 (by decide +kernel)
theorem dX12_cut_111 : decode cX12_cut 111 = .ok (.iload_n 3, 1) := dk_29 (by decide +kernel)
theorem dX12_cut_112 : decode cX12_cut 112 = .ok (.aload_n 0, 1) := dk_42 (by decide +kernel)
theorem dX12_cut_113 : decode cX12_cut 113 = .ok (.getfield 315, 3) := dk_180 (by decide +kernel)
theorem dX12_cut_116 : decode cX12_cut 116 = .ok (.iload 5, 2) := dk_21 (by decide +kernel)
theorem dX12_cut_118 : decode cX12_cut 118 = .ok (.iaload, 1) := dk_46 (by decide +kernel)
theorem dX12_cut_119 : decode cX12_cut 119 = .ok (.ishr, 1) := dk_122 (by decide +kernel)
theorem dX12_cut_120 : decode cX12_cut 120 = .ok (.iconst 1, 1) := dk_4 (by decide +kernel)
theorem dX12_cut_121 : decode cX12_cut 121 = .ok (.iand, 1) := dk_126 (by decide +kernel)
theorem dX12_cut_122 : decode cX12_cut 122 = .ok (.iconst 1, 1) := dk_4 (by decide +kernel)
theorem dX12_cut_123 : decode cX12_cut 123 = .ok (.if_icmp .ne 21, 3) := dk_160 (by decide +kernel)
theorem dX12_cut_126 : decode cX12_cut 126 = .ok (.iload_n 3, 1) := dk_29 (by decide +kernel)
theorem dX12_cut_127 : decode cX12_cut 127 = .ok (.aload_n 0, 1) := dk_42 (by decide +kernel)
theorem dX12_cut_128 : decode cX12_cut 128 = .ok (.getfield 312, 3) := dk_180 (by decide +kernel)
theorem dX12_cut_131 : decode cX12_cut 131 = .ok (.iload 5, 2) := dk_21 (by decide +kernel)
theorem dX12_cut_133 : decode cX12_cut 133 = .ok (.iaload, 1) := dk_46 (by decide +kernel)
theorem dX12_cut_134 : decode cX12_cut 134 = .ok (.ishr, 1) := dk_122 (by decide +kernel)
theorem dX12_cut_135 : decode cX12_cut 135 = .ok (.iconst 1, 1) := dk_4 (by decide +kernel)
theorem dX12_cut_136 : decode cX12_cut 136 = .ok (.iand, 1) := dk_126 (by decide +kernel)
theorem dX12_cut_137 : decode cX12_cut 137 = .ok (.ifCond .ne 7, 3) := dk_154 (by decide +kernel)
theorem dX12_cut_140 : decode cX12_cut 140 = .ok (.iconst 1, 1) := dk_4 (by decide +kernel)
theorem dX12_cut_141 : decode cX12_cut 141 = .ok (.goto 4, 3) := dk_167 (by decide +kernel)
theorem dX12_cut_144 : decode cX12_cut 144 = .ok (.iconst 0, 1) := dk_3 (by decide +kernel)
theorem dX12_cut_145 : decode cX12_cut 145 = .ok (.istore 7, 2) := dk_54 (by decide +kernel)
theorem dX12_cut_147 : decode cX12_cut 147 = .ok (.iload 6, 2) := dk_21 (by decide +kernel)
theorem dX12_cut_149 : decode cX12_cut 149 = .ok (.ifCond .ne 11, 3) := dk_154 (by decide +kernel)
theorem dX12_cut_152 : decode cX12_cut 152 = .ok (.iload 7, 2) := dk_21 (by decide +kernel)
theorem dX12_cut_154 : decode cX12_cut 154 = .ok (.ifCond .ne 6, 3) := dk_154 (by decide +kernel)
theorem dX12_cut_157 : decode cX12_cut 157 = .ok (.goto 33, 3) := dk_167 (by decide +kernel)
theorem dX12_cut_160 : decode cX12_cut 160 = .ok (.iload_n 3, 1) := dk_29 (by decide +kernel)
theorem dX12_cut_161 : decode cX12_cut 161 = .ok (.iconst 1, 1) := dk_4 (by decide +kernel)
theorem dX12_cut_162 : decode cX12_cut 162 = .ok (.iload 6, 2) := dk_21 (by decide +kernel)
theorem dX12_cut_164 : decode cX12_cut 164 = .ok (.ifCond .eq 13, 3) := dk_153 (by decide +kernel)
theorem dX12_cut_167 : decode cX12_cut 167 = .ok (.aload_n 0, 1) := dk_42 (by decide +kernel)
theorem dX12_cut_168 : decode cX12_cut 168 = .ok (.getfield 315, 3) := dk_180 (by decide +kernel)
theorem dX12_cut_171 : decode cX12_cut 171 = .ok (.iload 5, 2) := dk_21 (by decide +kernel)
theorem dX12_cut_173 : decode cX12_cut 173 = .ok (.iaload, 1) := dk_46 (by decide +kernel)
theorem dX12_cut_174 : decode cX12_cut 174 = .ok (.goto 10, 3) := dk_167 (by decide +kernel)
theorem dX12_cut_177 : decode cX12_cut 177 = .ok (.aload_n 0, 1) := dk_42 (by decide +kernel)
theorem dX12_cut_178 : decode cX12_cut 178 = .ok (.getfield 312, 3) := dk_180 (by decide +kernel)
theorem dX12_cut_181 : decode cX12_cut 181 = .ok (.iload 5, 2) := dk_21 (by decide +kernel)
theorem dX12_cut_183 : decode cX12_cut 183 = .ok (.iaload, 1) := dk_46 (by decide +kernel)
theorem dX12_cut_184 : decode cX12_cut 184 = .ok (.ishl, 1) := dk_120 (by decide +kernel)
theorem dX12_cut_185 : decode cX12_cut 185 = .ok (.ior, 1) := dk_128 (by decide +kernel)
theorem dX12_cut_186 : decode cX12_cut 186 = .ok (.istore_n 3, 1) := dk_62 (by decide +kernel)
theorem dX12_cut_187 : decode cX12_cut 187 = .ok (.iconst 1, 1) := dk_4 (by decide +kernel)
theorem dX12_cut_188 : decode cX12_cut 188 = .ok (.istore 4, 2) := dk_54 (by decide +kernel)
theorem dX12_cut_190 : decode cX12_cut 190 = .ok (.iinc 5 1, 3) := dk_132 (by decide +kernel)
theorem dX12_cut_193 : decode cX12_cut 193 = .ok (.goto (-154), 3) := dk_167 (by decide +kernel)
theorem dX12_cut_196 : decode cX12_cut 196 = .ok (.goto (-168), 3) := dk_167 (by decide +kernel)
theorem dX12_cut_199 : decode cX12_cut 199 = .ok (.iload_n 3, 1) := dk_29 (by decide +kernel)
theorem dX12_cut_200 : decode cX12_cut 200 = .ok (.ireturn, 1) := dk_172 (by decide +kernel)
def wsRX12_cut : List Cond := .code yX12_cut cX12_cut 8 (some .int) :: ([.constant RX12 1082 100000, .fieldLink RX12 1069 "OptimaWorksModel" "arcs" "I", .fieldLink RX12 324 "OptimaWorksModel" "flow" "[I", .fieldLink RX12 318 "OptimaWorksModel" "arcRoom" "[I", .fieldLink RX12 312 "OptimaWorksModel" "arcFrom" "[I", .fieldLink RX12 315 "OptimaWorksModel" "arcTo" "[I"] ++ wsX120 ++ (wsV RX12 1079 RX12 yX12_areEnds wsRX12_areEnds) ++ (wsV RX12 1083 RX12 yX12_send wsRX12_send))
theorem iwsRX12_cut_in12 : ∀ w ∈ wsX120, w ∈ wsRX12_cut := fun _ h => List.mem_cons_of_mem _ (List.mem_append_left _ (List.mem_append_left _ (List.mem_append_right _ h)))
theorem gwsRX12_cut_0 : GoodIn wsRX12_cut (wsV RX12 1079 RX12 yX12_areEnds wsRX12_areEnds) := goodIn_sub (fun _ h => List.mem_cons_of_mem _ (List.mem_append_left _ (List.mem_append_right _ h))) (gdV (by decide +kernel) gdwsRX12_areEnds)
theorem gwsRX12_cut_1 : GoodIn wsRX12_cut (wsV RX12 1083 RX12 yX12_send wsRX12_send) := goodIn_sub (fun _ h => List.mem_cons_of_mem _ (List.mem_append_right _ h)) (gdV (by decide +kernel) gdwsRX12_send)
theorem gdwsRX12_cut : wsRX12_cut.all goodWord = true := gdC rfl (gdA (gdA (gdA (by decide +kernel : ([.constant RX12 1082 100000, .fieldLink RX12 1069 "OptimaWorksModel" "arcs" "I", .fieldLink RX12 324 "OptimaWorksModel" "flow" "[I", .fieldLink RX12 318 "OptimaWorksModel" "arcRoom" "[I", .fieldLink RX12 312 "OptimaWorksModel" "arcFrom" "[I", .fieldLink RX12 315 "OptimaWorksModel" "arcTo" "[I"] : List Cond).all goodWord = true) gdwsX120) (gdV (by decide +kernel) gdwsRX12_areEnds)) (gdV (by decide +kernel) gdwsRX12_send))
theorem hm_r_X12_cut_0 : (.fieldLink RX12 324 "OptimaWorksModel" "flow" "[I" : Cond) ∈ wsRX12_cut := by decide +kernel
theorem hm_r_X12_cut_1 : (.fieldLink RX12 312 "OptimaWorksModel" "arcFrom" "[I" : Cond) ∈ wsRX12_cut := by decide +kernel
theorem hm_r_X12_cut_2 : (.fieldLink RX12 315 "OptimaWorksModel" "arcTo" "[I" : Cond) ∈ wsRX12_cut := by decide +kernel
set_option maxHeartbeats 4000000 in
set_option maxRecDepth 100000 in
/-- cut(s, t) -/
theorem r_X12_cut (l : Launch) (dC : Nat → ClassId) (dI : Nat → Nat → Nat) (a : Nat → Nat) (k : Nat → ClassId) (h0 : Nat) (vi : Nat → Int32) (vj : Nat → Int64) (vF : Nat → Nat → Int32) (vG : Nat → Nat → Int64) (sI : Int32) (tI : Int32) (ar : Nat) (har : vi 150 = nI ar) (har40 : ar ≤ 40) (hAr : ArO (vF 95) (vF 96) (vF 97) (vF 98) ar) (sz : Nat) : Met l yX12_cut wsRX12_cut ({ frames := 2, cells := 0, slots := 0, locals := 54 }) (va_Pc [.ref h0, .int sI, .int tI] (fun U => U.heap.size = sz ∧ va_P (dC, dI) vwCl (WR a k h0 vi vj vF vG) U.heap ∧ va_K (dC, dI) vwCl (tX12 k) U ∧ va_D (fun _ => True) (WR a k h0 vi vj vF vG))) (va_Qi (fun (r : Int32) (u : (Int32) × (Nat → Int32) × (Nat → Int32) × (Nat → Int32)) => ((((u.1) = 1 ∧ ¬ ((0 ≤ (sI).toInt ∧ (sI).toInt ≤ 11) ∧ 0 ≤ (tI).toInt ∧ (tI).toInt ≤ 11)) ∨ ((u.1) = 2 ∧ ((0 ≤ (sI).toInt ∧ (sI).toInt ≤ 11) ∧ 0 ≤ (tI).toInt ∧ (tI).toInt ≤ 11) ∧ (sI).toInt = (tI).toInt))) ∨ (((u.1) = 0) ∧ (((0 ≤ (sI).toInt ∧ (sI).toInt ≤ 11) ∧ 0 ≤ (tI).toInt ∧ (tI).toInt ≤ 11) ∧ (sI).toInt ≠ (tI).toInt) ∧ (mxC (((ar : Nat) : Int), vF 95, vF 96, vF 97, vF 98) (sI).toInt.toNat (tI).toInt.toNat r))) (fun (u : (Int32) × (Nat → Int32) × (Nat → Int32) × (Nat → Int32)) t => va_P (dC, dI) vwCl (WR a k h0 (fT vi 0 (u.1)) vj (fT (fT (fT vF 99 (u.2.1)) 100 (u.2.2.1)) 101 (u.2.2.2)) vG) t.heap ∧ va_D (va_A (WR a k h0 vi vj vF vG) sz) (WR a k h0 (fT vi 0 (u.1)) vj (fT (fT (fT vF 99 (u.2.1)) 100 (u.2.2.1)) 101 (u.2.2.2)) vG)) (va_A (WR a k h0 vi vj vF vG) sz)) 0 0 (va_A (WR a k h0 vi vj vF vG) sz) := by
  refine Met.ofW (cc := cX12_cut) (maxL := 8) (ret := (some .int)) (by decide) rfl ?_
  intro p e s m args below meth c s₁ B hml hv
  obtain ⟨rfl, hsz, hP, hK, hD0⟩ := hv
  have hx := B.exec
  have hb := B.bytes
  have hr := B.returns
  have hts := atoms_spec (ws := wsRX12_cut) B.pre
  have hown : s.vm.findClass RX12 = some m.cls := findClass_of_methodNamed B.named
  have hlocks := B.notSynchronized
  subst hsz
  have hD := hD0.self (sz := s.heap.size)
  generalize hAe : va_A (WR a k h0 vi vj vF vG) s.heap.size = A at hD ⊢
  have hA : ∀ q : Nat, s.heap.size ≤ q → A q := fun q h => by rw [← hAe]; exact Or.inr h
  have hS : va_S A s.heap s.heap [] := va_S.rf
  have hl := lv_entry ([.ref h0, .int sI, .int tI]) (n := 8) (Nat.le_of_ble_eq_true rfl)
  rw [lg_entry_eq]
  generalize (lg_sl ([.ref h0, .int sI, .int tI]) ++ List.replicate (8 - (lg_sl ([.ref h0, .int sI, .int tI])).length) Slot.unset).toArray = ls at hl ⊢
  have hl : lv_has ls 8 [(0, .ref h0), (1, .int sI), (2, .int tI)] := hl
  refine lv_aload_n hx hb dX12_cut_0 rfl (lv_at hl 0 rfl) ?_
  refine lv_iload_n hx hb dX12_cut_1 rfl (lv_at hl 1 rfl) ?_
  refine lv_iload_n hx hb dX12_cut_2 rfl (lv_at hl 2 rfl) ?_
  have hFc := allFree hD hS hA
  refine va_calli (va_runV (As := [.int sI, .int tI]) (rest := []) ⟨hx, hb, hml, hown, hts⟩ (r_X12_areEnds l dC dI a k h0 vi vj vF vG sI tI s.heap.size) (cwV 2 hts gwsRX12_cut_0 rfl rfl rfl hd_yX12_areEnds_RX12 (by decide +kernel)) (fz_pre (va_recv hK hP (ci := 12) (q0 := 0) rfl rfl) hP hK hD) rfl rfl hl.1 rfl (lv_room (Nat.le_of_ble_eq_true rfl)) dX12_cut_3 (by decide +kernel)) hS (fun q _ h => hFc q h) hFc (fun r3 th3 t9_ H locs ht hvm hw9 hB9 hz1 hk1 hS => ?_)
  have hP : va_P (dC, dI) vwCl (WR a k h0 (fT vi 0 th3) vj vF vG) H := fz_P ht hB9.1
  have hD := fz_sd hP (hB9.2.weaken (fun _ q _ h => hFc q.1 h)) rfl
  rcases hw9 with ⟨rfl, f3_0, f3_1, f3_2, f3_3⟩ | ⟨rfl, f3_0⟩
  · refine lv_if_ne (tgt := 11) hx hb dX12_cut_6 (by decide) (fun _ => ?_) (fun c9 => absurd c9 (by decide))
    obtain ⟨sN, hsN, esN⟩ := of_toInt (x := sI) (k := 12) (by omega) (by omega)
    subst esN
    obtain ⟨tN, htN, etN⟩ := of_toInt (x := tI) (k := 12) (by omega) (by omega)
    subst etN
    have htsn : tN ≠ sN := fun e9 => f3_2 (by rw [e9])
    have es9 : (nI sN).toInt.toNat = sN := by rw [nI_toInt (by omega)]; omega
    have et9 : (nI tN).toInt.toNat = tN := by rw [nI_toInt (by omega)]; omega
    refine lv_aload_n hx hb dX12_cut_11 rfl (lv_at hl 0 rfl) ?_
    refine lv_iload_n hx hb dX12_cut_12 rfl (lv_at hl 1 rfl) ?_
    refine lv_iload_n hx hb dX12_cut_13 rfl (lv_at hl 2 rfl) ?_
    refine lv_ldcw (v := 100000) hx hb hown (hts (.constant RX12 1082 100000) (by decide +kernel)) dX12_cut_14 ?_
    have hFc := allFree hD hS hA
    refine va_calli (va_runV (As := [.int (nI sN), .int (nI tN), .int 100000]) (rest := []) ⟨hx, hb, hml, hown, hts⟩ (r_X12_send l dC dI a k h0 (fT vi 0 th3) vj vF vG ar sN tN 100000 har (by first | with_reducible assumption | decide | omega | rfl | assumption) (by first | with_reducible assumption | decide | omega | rfl | assumption) (by first | with_reducible assumption | decide | omega | rfl | assumption) (by first | with_reducible assumption | decide | omega | rfl | assumption) (by first | with_reducible assumption | decide | omega | rfl | assumption) H.size) (cwV 3 hts gwsRX12_cut_1 rfl rfl rfl hd_yX12_send_RX12 (by decide +kernel)) (fz_pre (va_recv hK hP (ci := 12) (q0 := 0) rfl rfl) hP hK hD) rfl rfl hl.1 rfl (lv_room (Nat.le_of_ble_eq_true rfl)) dX12_cut_17 (by decide +kernel)) hS (fun q _ h => hFc q h) hFc (fun r17 u t9_ H locs ht hvm hw9 hB9 hz1 hk1 hS => ?_)
    revert u hw9 hB9
    refine fz_p3 ?_
    intro g9917 g10017 g10117 hw9 hB9
    try dsimp only at hw9 hB9
    have hP : va_P (dC, dI) vwCl (WR a k h0 (fT vi 0 th3) vj (fT (fT (fT vF 99 g9917) 100 g10017) 101 g10117) vG) H := fz_P ht hB9.1
    have hD := fz_sd hP (hB9.2.weaken (fun _ q _ h => hFc q.1 h)) rfl
    revert hw9
    refine fz_a6 ?_
    intro f17_0 f17_1 f17_2 f17_3 f17_4 f17_5
    have f17_0 : FlO (vF 97) g9917 ar := f17_0
    have f17_1 : rsI (((ar : Nat) : Int), (vF 95), (vF 96), (vF 97), (vF 98)) sN tN (fI g9917) r17.toInt ar := f17_1
    have f17_2 : r17.toInt < (100000 : Int32).toInt → ∃ R, sep sN tN R ∧ flC (((ar : Nat) : Int), (vF 95), (vF 96), (vF 97), (vF 98)) (fI g9917) R ar := f17_2
    have f17_4 : ∃ p, PoO (vF 95) (vF 96) (vF 97) (vF 98) g9917 ar (fun _ => True) p := f17_4
    refine lv_pop hx hb dX12_cut_20 rfl ?_
    refine lv_iconst (v := 1) hx hb dX12_cut_21 (by decide) ?_
    refine lv_iload_n hx hb dX12_cut_22 rfl (lv_at hl 1 rfl) ?_
    refine lv_ishl hx hb dX12_cut_23 ?_
    refine lv_topi (fun y1 hy1 => ?_)
    obtain rfl : (nI (2 ^ sN)) = y1 := (hy1.trans (pow_bit sN (by omega))).symm
    refine lv_istore_n hx hb dX12_cut_24 rfl hl (by decide) rfl (fun ls (hl : lv_has ls _ ([(3, .int (nI (2 ^ sN))), (0, .ref h0), (1, .int (nI sN)), (2, .int (nI tN))])) => ?_)
    refine lv_iconst (v := 1) hx hb dX12_cut_25 (by decide) ?_
    refine lv_istore hx hb dX12_cut_26 hl (by decide) rfl (fun ls (hl : lv_has ls _ ([(4, .int 1), (3, .int (nI (2 ^ sN))), (0, .ref h0), (1, .int (nI sN)), (2, .int (nI tN))])) => ?_)
    have hl : lv_has _ _ ([(0, .ref h0), (3, .int (nI (2 ^ sN))), (4, .int 1)]) := lv_sub hl [2, 1, 0] rfl
    refine (fun (loop : ∀ (n9 : Nat) (se : Nat) (mo : Int32) (H : Heap) (locs : List Loc) (ls : Array Slot), (se < 4096) → (bI (nI se) sN = true) → (∀ n, bI (nI se) n = true → n < 12) → (∀ S, S sN = true → flC (((ar : Nat) : Int), vF 95, vF 96, vF 97, vF 98) (fI g9917) S ar → ∀ n, bI (nI se) n = true → S n = true) → (mo = 0 → flC (((ar : Nat) : Int), vF 95, vF 96, vF 97, vF 98) (fI g9917) (bI (nI se)) ar) →  ((mo = 0 ∧ 0 < n9) ∨ (0 < n9 ∧ 4096 < se + n9)) → va_P (dC, dI) vwCl (WR a k h0 (fT vi 0 th3) vj (fT (fT (fT vF 99 g9917) 100 g10017) 101 g10117) vG) H → va_D A (WR a k h0 (fT vi 0 th3) vj (fT (fT (fT vF 99 g9917) 100 g10017) 101 g10117) vG) → va_S A s.heap H locs → lv_has ls 8 [(0, .ref h0), (3, .int (nI se)), (4, .int mo)] → W p l e _ s m _ below meth c H locs 0 0 _ (F0 m 28 ls [])) => loop (4097) (2 ^ sN) 1 _ _ _ (Nat.pow_lt_pow_right (m := sN) (n := 12) (by decide) (by omega)) (by rw [bI_pow (by omega)]; exact decide_eq_true rfl) (fun n h9 => by rw [bI_pow (by omega)] at h9; (have h8 := of_decide_eq_true h9); omega) (fun S h1 _ n h9 => by rw [bI_pow (by omega)] at h9; rw [of_decide_eq_true h9]; exact h1) (fun h9 => absurd h9 (by decide)) (Or.inr ⟨by decide, by (have h9 := Nat.one_le_two_pow (n := sN)); omega⟩) hP hD hS hl) ?_
    intro n9
    induction n9 with
    | zero => intro se mo H locs ls hse hs0 hsl hmin hcl hf9; exact False.elim (by omega)
    | succ n9 ih28 =>
      intro se mo H locs ls hse hs0 hsl hmin hcl hf28 hP hD hS hl
      have hfx := hf28
      refine lv_iload hx hb dX12_cut_28 (lv_at hl 2 rfl) ?_
      refine lv_if_eq (tgt := 199) hx hb dX12_cut_30 (by decide) (fun c_30 => ?_) (fun c_30 => ?_)
      · have t_30 : (mo).toInt = 0 := toI_eq c_30 rfl (by decide)
        refine lv_iload_n hx hb dX12_cut_199 rfl (lv_at hl 1 rfl) ?_
        refine W.widen (k := 0) (n := 0) (by decide +kernel) (by decide +kernel) ?_
        exact W.iret (v := (nI se)) hx hb hr (fun t9_ ht hW => ⟨⟨(nI se), (th3, g9917, g10017, g10117), rfl, by (try dsimp only); exact Or.inr ⟨f3_3, ⟨by omega, fun e9 => f3_2 (Int32.toInt_inj.mp e9)⟩, by rw [es9, et9]; exact rsI.seen hAr har40 f17_0 htsn f17_1 f17_2 (by decide) (by omega) hs0 (hcl c_30) hmin hsl⟩, by rw [ht]; exact hP, hD⟩, hS.F ht⟩) hS.2.2 dX12_cut_200
      · have t_30 : ¬ (mo).toInt = 0 := toI_neq c_30 rfl (by decide)
        refine lv_iconst (v := 0) hx hb dX12_cut_33 (by decide) ?_
        refine lv_istore hx hb dX12_cut_34 hl (by decide) rfl (fun ls (hl : lv_has ls _ ([(4, .int 0), (0, .ref h0), (3, .int (nI se))])) => ?_)
        refine lv_iconst (v := 0) hx hb dX12_cut_36 (by decide) ?_
        refine lv_istore hx hb dX12_cut_37 hl (by decide) rfl (fun ls (hl : lv_has ls _ ([(5, .int 0), (4, .int 0), (0, .ref h0), (3, .int (nI se))])) => ?_)
        have hl : lv_has _ _ ([(0, .ref h0), (3, .int (nI se)), (4, .int 0), (5, .int (nI 0))]) := lv_sub hl [2, 3, 1, 0] rfl
        refine (fun (loop : ∀ (n9 : Nat) (a5 : Nat) (se2 : Nat) (m2 : Int32) (H : Heap) (locs : List Loc) (ls : Array Slot), (a5 ≤ ar) → (se ≤ se2 ∧ se2 < 4096) → (m2 = 0 ∨ se < se2) → (bI (nI se2) sN = true) → (∀ n, bI (nI se2) n = true → n < 12) → (∀ S, S sN = true → flC (((ar : Nat) : Int), vF 95, vF 96, vF 97, vF 98) (fI g9917) S ar → ∀ n, bI (nI se2) n = true → S n = true) → (m2 = 0 → flC (((ar : Nat) : Int), vF 95, vF 96, vF 97, vF 98) (fI g9917) (bI (nI se2)) a5) →  (ar < a5 + n9) → va_P (dC, dI) vwCl (WR a k h0 (fT vi 0 th3) vj (fT (fT (fT vF 99 g9917) 100 g10017) 101 g10117) vG) H → va_D A (WR a k h0 (fT vi 0 th3) vj (fT (fT (fT vF 99 g9917) 100 g10017) 101 g10117) vG) → va_S A s.heap H locs → lv_has ls 8 [(0, .ref h0), (3, .int (nI se2)), (4, .int m2), (5, .int (nI a5))] → W p l e _ s m _ below meth c H locs 0 0 _ (F0 m 39 ls [])) => loop (ar + 1) 0 se 0 _ _ _ (by omega) (by omega) (Or.inl rfl) (hs0) (hsl) (hmin) (fun _ a ha => absurd ha (by omega)) (by omega) hP hD hS hl) ?_
        intro n9
        induction n9 with
        | zero => intro a5 se2 m2 H locs ls ha5 hse2 hm2 hs2 hsl2 hmin2 hcl2 hf9; exact False.elim (by omega)
        | succ n9 ih39_1 =>
          intro a5 se2 m2 H locs ls ha5 hse2 hm2 hs2 hsl2 hmin2 hcl2 hf39_1 hP hD hS hl
          refine lv_iload hx hb dX12_cut_39 (lv_at hl 3 rfl) ?_
          refine lv_aload_n hx hb dX12_cut_41 rfl (lv_at hl 0 rfl) ?_
          refine va_get (D := (dC, dI)) (ci := 12) (v := .int (vi 150)) (C := RX12) (T := TX12) (N := 163) (fs := fM (vS a (fT vi 0 th3) vj)) hx hb hts iwsRX12_cut_in12 hown hK hP 0 rfl rfl 150 (by decide) (hts (.fieldLink RX12 1069 "OptimaWorksModel" "arcs" "I") (by decide +kernel)) (fun _ h9 => h9) rfl dX12_cut_42 ?_
          refine lv_topi (fun y2 hy2 => ?_)
          obtain rfl : (nI ar) = y2 := (hy2.trans (har)).symm
          refine lv_icmp_ge (tgt := 196) hx hb dX12_cut_45 (by decide) (fun c_45 => ?_) (fun c_45 => ?_)
          · have t_45 : ((a5 : Nat) : Int) ≥ ((ar : Nat) : Int) := toI_ge c_45 (nI_toInt (by omega)) (nI_toInt (by omega))
            refine lv_goto (tgt := 28) hx hb dX12_cut_196 (by decide) ?_
            have hl : lv_has _ _ ([(0, .ref h0), (3, .int (nI se2)), (4, .int m2)]) := lv_sub hl [0, 1, 2] rfl
            exact ih28 se2 m2 _ _ _ (by omega) (hs2) (hsl2) (hmin2) (fun h9 => by (have h8 := hcl2 h9); rw [show a5 = ar by omega] at h8; exact h8) (by (have h8 := hfx.resolve_left (fun h => c_30 h.1)); rcases hm2 with h7 | h7; (exact Or.inl ⟨h7, by omega⟩); (exact Or.inr ⟨by omega, by omega⟩)) hP hD hS hl
          · have t_45 : ¬ ((a5 : Nat) : Int) ≥ ((ar : Nat) : Int) := toI_nge c_45 (nI_toInt (by omega)) (nI_toInt (by omega))
            obtain ⟨x5, yB, hx5, hyB, hxy5, ex5, eyB, hr5, hc5⟩ := hAr a5 (by omega)
            have hfl5 := f17_0 a5 (by omega)
            have eF5 : tFr (((ar : Nat) : Int), vF 95, vF 96, vF 97, vF 98) a5 = x5 := tFr_nI (d := (((ar : Nat) : Int), vF 95, vF 96, vF 97, vF 98)) hx5 ex5
            have eT5 : tTo (((ar : Nat) : Int), vF 95, vF 96, vF 97, vF 98) a5 = yB := tTo_nI (d := (((ar : Nat) : Int), vF 95, vF 96, vF 97, vF 98)) hyB eyB
            refine lv_aload_n hx hb dX12_cut_48 rfl (lv_at hl 0 rfl) ?_
            refine va_get (D := (dC, dI)) (ci := 12) (v := .ref (a 99)) (C := RX12) (T := TX12) (N := 163) (fs := fM (vS a (fT vi 0 th3) vj)) hx hb hts iwsRX12_cut_in12 hown hK hP 0 rfl rfl 155 (by decide) (hts _ hm_r_X12_cut_0) (fun _ h9 => h9) rfl dX12_cut_49 ?_
            refine lv_iload hx hb dX12_cut_52 (lv_at hl 3 rfl) ?_
            refine va_iald (cA := k 99) (n := 40) (f := g9917) hx hb hK hP 100 99 (WR_get 99 (by decide)) (TR_get 99 (by decide)) (vp_in_nI (show a5 < 40 by omega) (by omega)) dX12_cut_54 ?_
            refine lv_topi (fun y3 hy3 => ?_)
            obtain rfl : (g9917 a5) = y3 := (hy3.trans (by rw [nI_clamp (by omega)])).symm
            refine lv_aload_n hx hb dX12_cut_55 rfl (lv_at hl 0 rfl) ?_
            refine va_get (D := (dC, dI)) (ci := 12) (v := .ref (a 97)) (C := RX12) (T := TX12) (N := 163) (fs := fM (vS a (fT vi 0 th3) vj)) hx hb hts iwsRX12_cut_in12 hown hK hP 0 rfl rfl 153 (by decide) (hts (.fieldLink RX12 318 "OptimaWorksModel" "arcRoom" "[I") (by decide +kernel)) (fun _ h9 => h9) rfl dX12_cut_56 ?_
            refine lv_iload hx hb dX12_cut_59 (lv_at hl 3 rfl) ?_
            refine va_iald (cA := k 97) (n := 40) (f := (vF 97)) hx hb hK hP 98 97 (WR_get 97 (by decide)) (TR_get 97 (by decide)) (vp_in_nI (show a5 < 40 by omega) (by omega)) dX12_cut_61 ?_
            refine lv_topi (fun y4 hy4 => ?_)
            obtain rfl : ((vF 97) a5) = y4 := (hy4.trans (by rw [nI_clamp (by omega)])).symm
            refine W.cut (pc := 99) (fun H locs ls stk => ∃ (ah : Int32), ((ah = 0 ∧ ¬ ((g9917 a5).toInt < (vF 97 a5).toInt ∧ bI (nI se2) x5 = true ∧ bI (nI se2) yB = false)) ∨ (ah = 1 ∧ (nI se2 >>> (nI yB &&& 31)) &&& 1 = 0 ∧ ((g9917 a5).toInt < (vF 97 a5).toInt ∧ bI (nI se2) x5 = true ∧ bI (nI se2) yB = false))) ∧  stk = [.int ah] ∧ va_P (dC, dI) vwCl (WR a k h0 (fT vi 0 th3) vj (fT (fT (fT vF 99 g9917) 100 g10017) 101 g10117) vG) H ∧ va_D A (WR a k h0 (fT vi 0 th3) vj (fT (fT (fT vF 99 g9917) 100 g10017) 101 g10117) vG) ∧ va_S A s.heap H locs ∧ lv_has ls 8 [(0, .ref h0), (3, .int (nI se2)), (4, .int m2), (5, .int (nI a5))]) (fun join1 => ?_) ?_
            · refine lv_icmp_ge (tgt := 98) hx hb dX12_cut_62 (by decide) (fun c_62 => ?_) (fun c_62 => ?_)
              · have t_62 : ((g9917 a5)).toInt ≥ (((vF 97) a5)).toInt := toI_ge c_62 rfl rfl
                refine lv_iconst (v := 0) hx hb dX12_cut_98 (by decide) ?_
                have hl : lv_has _ _ ([(0, .ref h0), (3, .int (nI se2)), (4, .int m2), (5, .int (nI a5))]) := lv_sub hl [0, 1, 2, 3] rfl
                exact join1 _ _ _ _ ⟨0, Or.inl ⟨rfl, fun h9 => absurd h9.1 (by omega)⟩, rfl, hP, hD, hS, hl⟩
              · have t_62 : ¬ ((g9917 a5)).toInt ≥ (((vF 97) a5)).toInt := toI_nge c_62 rfl rfl
                refine lv_iload_n hx hb dX12_cut_65 rfl (lv_at hl 1 rfl) ?_
                refine lv_aload_n hx hb dX12_cut_66 rfl (lv_at hl 0 rfl) ?_
                refine va_get (D := (dC, dI)) (ci := 12) (v := .ref (a 95)) (C := RX12) (T := TX12) (N := 163) (fs := fM (vS a (fT vi 0 th3) vj)) hx hb hts iwsRX12_cut_in12 hown hK hP 0 rfl rfl 151 (by decide) (hts _ hm_r_X12_cut_1) (fun _ h9 => h9) rfl dX12_cut_67 ?_
                refine lv_iload hx hb dX12_cut_70 (lv_at hl 3 rfl) ?_
                refine va_iald (cA := k 95) (n := 40) (f := (vF 95)) hx hb hK hP 96 95 (WR_get 95 (by decide)) (TR_get 95 (by decide)) (vp_in_nI (show a5 < 40 by omega) (by omega)) dX12_cut_72 ?_
                refine lv_topi (fun y5 hy5 => ?_)
                obtain rfl : ((vF 95) a5) = y5 := (hy5.trans (by rw [nI_clamp (by omega)])).symm
                refine lv_topi (fun y6 hy6 => ?_)
                obtain rfl : (nI x5) = y6 := (hy6.trans (ex5)).symm
                refine lv_ishr hx hb dX12_cut_73 ?_
                refine lv_iconst (v := 1) hx hb dX12_cut_74 (by decide) ?_
                refine lv_iand hx hb dX12_cut_75 ?_
                refine lv_iconst (v := 1) hx hb dX12_cut_76 (by decide) ?_
                refine lv_icmp_ne (tgt := 98) hx hb dX12_cut_77 (by decide) (fun c_77 => ?_) (fun c_77 => ?_)
                · have t_77 : ((((nI se2) >>> ((nI x5) &&& 31)) &&& 1)).toInt ≠ 1 := toI_ne c_77 rfl (by decide)
                  refine lv_iconst (v := 0) hx hb dX12_cut_98 (by decide) ?_
                  have hl : lv_has _ _ ([(0, .ref h0), (3, .int (nI se2)), (4, .int m2), (5, .int (nI a5))]) := lv_sub hl [0, 1, 2, 3] rfl
                  exact join1 _ _ _ _ ⟨0, Or.inl ⟨rfl, fun h9 => c_77 (bI_oneT (by omega) h9.2.1)⟩, rfl, hP, hD, hS, hl⟩
                · have t_77 : ((((nI se2) >>> ((nI x5) &&& 31)) &&& 1)).toInt = 1 := toI_nne c_77 rfl (by decide)
                  refine lv_iload_n hx hb dX12_cut_80 rfl (lv_at hl 1 rfl) ?_
                  refine lv_aload_n hx hb dX12_cut_81 rfl (lv_at hl 0 rfl) ?_
                  refine va_get (D := (dC, dI)) (ci := 12) (v := .ref (a 96)) (C := RX12) (T := TX12) (N := 163) (fs := fM (vS a (fT vi 0 th3) vj)) hx hb hts iwsRX12_cut_in12 hown hK hP 0 rfl rfl 152 (by decide) (hts _ hm_r_X12_cut_2) (fun _ h9 => h9) rfl dX12_cut_82 ?_
                  refine lv_iload hx hb dX12_cut_85 (lv_at hl 3 rfl) ?_
                  refine va_iald (cA := k 96) (n := 40) (f := (vF 96)) hx hb hK hP 97 96 (WR_get 96 (by decide)) (TR_get 96 (by decide)) (vp_in_nI (show a5 < 40 by omega) (by omega)) dX12_cut_87 ?_
                  refine lv_topi (fun y7 hy7 => ?_)
                  obtain rfl : ((vF 96) a5) = y7 := (hy7.trans (by rw [nI_clamp (by omega)])).symm
                  refine lv_topi (fun y8 hy8 => ?_)
                  obtain rfl : (nI yB) = y8 := (hy8.trans (eyB)).symm
                  refine lv_ishr hx hb dX12_cut_88 ?_
                  refine lv_iconst (v := 1) hx hb dX12_cut_89 (by decide) ?_
                  refine lv_iand hx hb dX12_cut_90 ?_
                  refine lv_if_ne (tgt := 98) hx hb dX12_cut_91 (by decide) (fun c_91 => ?_) (fun c_91 => ?_)
                  · have t_91 : ((((nI se2) >>> ((nI yB) &&& 31)) &&& 1)).toInt ≠ 0 := toI_ne c_91 rfl (by decide)
                    refine lv_iconst (v := 0) hx hb dX12_cut_98 (by decide) ?_
                    have hl : lv_has _ _ ([(0, .ref h0), (3, .int (nI se2)), (4, .int m2), (5, .int (nI a5))]) := lv_sub hl [0, 1, 2, 3] rfl
                    exact join1 _ _ _ _ ⟨0, Or.inl ⟨rfl, fun h9 => c_91 ((bI_test (by omega)).mpr h9.2.2)⟩, rfl, hP, hD, hS, hl⟩
                  · have t_91 : ((((nI se2) >>> ((nI yB) &&& 31)) &&& 1)).toInt = 0 := toI_nne c_91 rfl (by decide)
                    refine lv_iconst (v := 1) hx hb dX12_cut_94 (by decide) ?_
                    refine lv_goto (tgt := 99) hx hb dX12_cut_95 (by decide) ?_
                    have hl : lv_has _ _ ([(0, .ref h0), (3, .int (nI se2)), (4, .int m2), (5, .int (nI a5))]) := lv_sub hl [0, 1, 2, 3] rfl
                    exact join1 _ _ _ _ ⟨1, Or.inr ⟨rfl, c_91, (by omega), bI_one (by omega) c_77, (bI_test (by omega)).mp c_91⟩, rfl, hP, hD, hS, hl⟩
            · rintro H locs ls stk ⟨ah, hah, rfl, hP, hD, hS, hl⟩
              refine lv_istore hx hb dX12_cut_99 hl (by decide) rfl (fun ls (hl : lv_has ls _ ([(6, .int ah), (0, .ref h0), (3, .int (nI se2)), (4, .int m2), (5, .int (nI a5))])) => ?_)
              refine lv_aload_n hx hb dX12_cut_101 rfl (lv_at hl 1 rfl) ?_
              refine va_get (D := (dC, dI)) (ci := 12) (v := .ref (a 99)) (C := RX12) (T := TX12) (N := 163) (fs := fM (vS a (fT vi 0 th3) vj)) hx hb hts iwsRX12_cut_in12 hown hK hP 0 rfl rfl 155 (by decide) (hts _ hm_r_X12_cut_0) (fun _ h9 => h9) rfl dX12_cut_102 ?_
              refine lv_iload hx hb dX12_cut_105 (lv_at hl 4 rfl) ?_
              refine va_iald (cA := k 99) (n := 40) (f := g9917) hx hb hK hP 100 99 (WR_get 99 (by decide)) (TR_get 99 (by decide)) (vp_in_nI (show a5 < 40 by omega) (by omega)) dX12_cut_107 ?_
              refine lv_topi (fun y9 hy9 => ?_)
              obtain rfl : (g9917 a5) = y9 := (hy9.trans (by rw [nI_clamp (by omega)])).symm
              refine W.cut (pc := 145) (fun H locs ls stk => ∃ (bk : Int32), ((bk = 0 ∧ ¬ (0 < (g9917 a5).toInt ∧ bI (nI se2) yB = true ∧ bI (nI se2) x5 = false)) ∨ (bk = 1 ∧ (nI se2 >>> (nI x5 &&& 31)) &&& 1 = 0 ∧ (0 < (g9917 a5).toInt ∧ bI (nI se2) yB = true ∧ bI (nI se2) x5 = false))) ∧  stk = [.int bk] ∧ va_P (dC, dI) vwCl (WR a k h0 (fT vi 0 th3) vj (fT (fT (fT vF 99 g9917) 100 g10017) 101 g10117) vG) H ∧ va_D A (WR a k h0 (fT vi 0 th3) vj (fT (fT (fT vF 99 g9917) 100 g10017) 101 g10117) vG) ∧ va_S A s.heap H locs ∧ lv_has ls 8 [(6, .int ah), (0, .ref h0), (3, .int (nI se2)), (4, .int m2), (5, .int (nI a5))]) (fun join2 => ?_) ?_
              · refine lv_if_le (tgt := 144) hx hb dX12_cut_108 (by decide) (fun c_108 => ?_) (fun c_108 => ?_)
                · have t_108 : ((g9917 a5)).toInt ≤ 0 := toI_le c_108 rfl (by decide)
                  refine lv_iconst (v := 0) hx hb dX12_cut_144 (by decide) ?_
                  have hl : lv_has _ _ ([(6, .int ah), (0, .ref h0), (3, .int (nI se2)), (4, .int m2), (5, .int (nI a5))]) := lv_sub hl [0, 1, 2, 3, 4] rfl
                  exact join2 _ _ _ _ ⟨0, Or.inl ⟨rfl, fun h9 => absurd h9.1 (by omega)⟩, rfl, hP, hD, hS, hl⟩
                · have t_108 : ¬ ((g9917 a5)).toInt ≤ 0 := toI_nle c_108 rfl (by decide)
                  refine lv_iload_n hx hb dX12_cut_111 rfl (lv_at hl 2 rfl) ?_
                  refine lv_aload_n hx hb dX12_cut_112 rfl (lv_at hl 1 rfl) ?_
                  refine va_get (D := (dC, dI)) (ci := 12) (v := .ref (a 96)) (C := RX12) (T := TX12) (N := 163) (fs := fM (vS a (fT vi 0 th3) vj)) hx hb hts iwsRX12_cut_in12 hown hK hP 0 rfl rfl 152 (by decide) (hts _ hm_r_X12_cut_2) (fun _ h9 => h9) rfl dX12_cut_113 ?_
                  refine lv_iload hx hb dX12_cut_116 (lv_at hl 4 rfl) ?_
                  refine va_iald (cA := k 96) (n := 40) (f := (vF 96)) hx hb hK hP 97 96 (WR_get 96 (by decide)) (TR_get 96 (by decide)) (vp_in_nI (show a5 < 40 by omega) (by omega)) dX12_cut_118 ?_
                  refine lv_topi (fun y10 hy10 => ?_)
                  obtain rfl : ((vF 96) a5) = y10 := (hy10.trans (by rw [nI_clamp (by omega)])).symm
                  refine lv_topi (fun y11 hy11 => ?_)
                  obtain rfl : (nI yB) = y11 := (hy11.trans (eyB)).symm
                  refine lv_ishr hx hb dX12_cut_119 ?_
                  refine lv_iconst (v := 1) hx hb dX12_cut_120 (by decide) ?_
                  refine lv_iand hx hb dX12_cut_121 ?_
                  refine lv_iconst (v := 1) hx hb dX12_cut_122 (by decide) ?_
                  refine lv_icmp_ne (tgt := 144) hx hb dX12_cut_123 (by decide) (fun c_123 => ?_) (fun c_123 => ?_)
                  · have t_123 : ((((nI se2) >>> ((nI yB) &&& 31)) &&& 1)).toInt ≠ 1 := toI_ne c_123 rfl (by decide)
                    refine lv_iconst (v := 0) hx hb dX12_cut_144 (by decide) ?_
                    have hl : lv_has _ _ ([(6, .int ah), (0, .ref h0), (3, .int (nI se2)), (4, .int m2), (5, .int (nI a5))]) := lv_sub hl [0, 1, 2, 3, 4] rfl
                    exact join2 _ _ _ _ ⟨0, Or.inl ⟨rfl, fun h9 => c_123 (bI_oneT (by omega) h9.2.1)⟩, rfl, hP, hD, hS, hl⟩
                  · have t_123 : ((((nI se2) >>> ((nI yB) &&& 31)) &&& 1)).toInt = 1 := toI_nne c_123 rfl (by decide)
                    refine lv_iload_n hx hb dX12_cut_126 rfl (lv_at hl 2 rfl) ?_
                    refine lv_aload_n hx hb dX12_cut_127 rfl (lv_at hl 1 rfl) ?_
                    refine va_get (D := (dC, dI)) (ci := 12) (v := .ref (a 95)) (C := RX12) (T := TX12) (N := 163) (fs := fM (vS a (fT vi 0 th3) vj)) hx hb hts iwsRX12_cut_in12 hown hK hP 0 rfl rfl 151 (by decide) (hts _ hm_r_X12_cut_1) (fun _ h9 => h9) rfl dX12_cut_128 ?_
                    refine lv_iload hx hb dX12_cut_131 (lv_at hl 4 rfl) ?_
                    refine va_iald (cA := k 95) (n := 40) (f := (vF 95)) hx hb hK hP 96 95 (WR_get 95 (by decide)) (TR_get 95 (by decide)) (vp_in_nI (show a5 < 40 by omega) (by omega)) dX12_cut_133 ?_
                    refine lv_topi (fun y12 hy12 => ?_)
                    obtain rfl : ((vF 95) a5) = y12 := (hy12.trans (by rw [nI_clamp (by omega)])).symm
                    refine lv_topi (fun y13 hy13 => ?_)
                    obtain rfl : (nI x5) = y13 := (hy13.trans (ex5)).symm
                    refine lv_ishr hx hb dX12_cut_134 ?_
                    refine lv_iconst (v := 1) hx hb dX12_cut_135 (by decide) ?_
                    refine lv_iand hx hb dX12_cut_136 ?_
                    refine lv_if_ne (tgt := 144) hx hb dX12_cut_137 (by decide) (fun c_137 => ?_) (fun c_137 => ?_)
                    · have t_137 : ((((nI se2) >>> ((nI x5) &&& 31)) &&& 1)).toInt ≠ 0 := toI_ne c_137 rfl (by decide)
                      refine lv_iconst (v := 0) hx hb dX12_cut_144 (by decide) ?_
                      have hl : lv_has _ _ ([(6, .int ah), (0, .ref h0), (3, .int (nI se2)), (4, .int m2), (5, .int (nI a5))]) := lv_sub hl [0, 1, 2, 3, 4] rfl
                      exact join2 _ _ _ _ ⟨0, Or.inl ⟨rfl, fun h9 => c_137 ((bI_test (by omega)).mpr h9.2.2)⟩, rfl, hP, hD, hS, hl⟩
                    · have t_137 : ((((nI se2) >>> ((nI x5) &&& 31)) &&& 1)).toInt = 0 := toI_nne c_137 rfl (by decide)
                      refine lv_iconst (v := 1) hx hb dX12_cut_140 (by decide) ?_
                      refine lv_goto (tgt := 145) hx hb dX12_cut_141 (by decide) ?_
                      have hl : lv_has _ _ ([(6, .int ah), (0, .ref h0), (3, .int (nI se2)), (4, .int m2), (5, .int (nI a5))]) := lv_sub hl [0, 1, 2, 3, 4] rfl
                      exact join2 _ _ _ _ ⟨1, Or.inr ⟨rfl, c_137, (by omega), bI_one (by omega) c_123, (bI_test (by omega)).mp c_137⟩, rfl, hP, hD, hS, hl⟩
              · rintro H locs ls stk ⟨bk, hbk, rfl, hP, hD, hS, hl⟩
                refine lv_istore hx hb dX12_cut_145 hl (by decide) rfl (fun ls (hl : lv_has ls _ ([(7, .int bk), (6, .int ah), (0, .ref h0), (3, .int (nI se2)), (4, .int m2), (5, .int (nI a5))])) => ?_)
                refine lv_iload hx hb dX12_cut_147 (lv_at hl 1 rfl) ?_
                refine lv_if_ne (tgt := 160) hx hb dX12_cut_149 (by decide) (fun c_149 => ?_) (fun c_149 => ?_)
                · have t_149 : (ah).toInt ≠ 0 := toI_ne c_149 rfl (by decide)
                  refine lv_iload_n hx hb dX12_cut_160 rfl (lv_at hl 3 rfl) ?_
                  refine lv_iconst (v := 1) hx hb dX12_cut_161 (by decide) ?_
                  refine lv_iload hx hb dX12_cut_162 (lv_at hl 1 rfl) ?_
                  refine lv_if_eq (tgt := 177) hx hb dX12_cut_164 (by decide) (fun c9 => False.elim (c_149 c9)) (fun c_164 => ?_)
                  have t_164 : ¬ (ah).toInt = 0 := toI_neq c_164 rfl (by decide)
                  obtain ⟨s7, hs7, hs8, es7⟩ := setB (a := se2) (x := yB) (k := 12) (by omega) (by decide) (by omega) ((hah.resolve_left (fun h => c_149 h.1)).2.1)
                  refine lv_aload_n hx hb dX12_cut_167 rfl (lv_at hl 2 rfl) ?_
                  refine va_get (D := (dC, dI)) (ci := 12) (v := .ref (a 96)) (C := RX12) (T := TX12) (N := 163) (fs := fM (vS a (fT vi 0 th3) vj)) hx hb hts iwsRX12_cut_in12 hown hK hP 0 rfl rfl 152 (by decide) (hts _ hm_r_X12_cut_2) (fun _ h9 => h9) rfl dX12_cut_168 ?_
                  refine lv_iload hx hb dX12_cut_171 (lv_at hl 5 rfl) ?_
                  refine va_iald (cA := k 96) (n := 40) (f := (vF 96)) hx hb hK hP 97 96 (WR_get 96 (by decide)) (TR_get 96 (by decide)) (vp_in_nI (show a5 < 40 by omega) (by omega)) dX12_cut_173 ?_
                  refine lv_topi (fun y14 hy14 => ?_)
                  obtain rfl : ((vF 96) a5) = y14 := (hy14.trans (by rw [nI_clamp (by omega)])).symm
                  refine lv_topi (fun y15 hy15 => ?_)
                  obtain rfl : (nI yB) = y15 := (hy15.trans (eyB)).symm
                  refine lv_goto (tgt := 184) hx hb dX12_cut_174 (by decide) ?_
                  refine lv_ishl hx hb dX12_cut_184 ?_
                  refine lv_ior hx hb dX12_cut_185 ?_
                  refine lv_topi (fun y16 hy16 => ?_)
                  obtain rfl : (nI s7) = y16 := (hy16.trans (es7)).symm
                  refine lv_istore_n hx hb dX12_cut_186 rfl hl (by decide) rfl (fun ls (hl : lv_has ls _ ([(3, .int (nI s7)), (7, .int bk), (6, .int ah), (0, .ref h0), (4, .int m2), (5, .int (nI a5))])) => ?_)
                  refine lv_iconst (v := 1) hx hb dX12_cut_187 (by decide) ?_
                  refine lv_istore hx hb dX12_cut_188 hl (by decide) rfl (fun ls (hl : lv_has ls _ ([(4, .int 1), (3, .int (nI s7)), (7, .int bk), (6, .int ah), (0, .ref h0), (5, .int (nI a5))])) => ?_)
                  refine lv_iinc (v := (nI (a5 + 1))) hx hb dX12_cut_190 hl (k := 5) rfl (nI_add a5 1) (by decide) rfl (fun ls (hl : lv_has ls _ ([(5, .int (nI (a5 + 1))), (4, .int 1), (3, .int (nI s7)), (7, .int bk), (6, .int ah), (0, .ref h0)])) => ?_)
                  refine lv_goto (tgt := 39) hx hb dX12_cut_193 (by decide) ?_
                  have hl : lv_has _ _ ([(0, .ref h0), (3, .int (nI s7)), (4, .int 1), (5, .int (nI (a5 + 1)))]) := lv_sub hl [5, 2, 1, 0] rfl
                  exact ih39_1 (a5 + 1) s7 1 _ _ _ (by omega) (by omega) (Or.inr (by omega)) (by rw [bI_set (by omega) es7, hs2]; rfl) (setLow (by omega) es7 hsl2) (setMin (by omega) es7 hmin2 (fun S h1 h2 => h2.ahead (a := a5) (by omega) eF5 eT5 (hmin2 S h1 h2 x5 (hah.resolve_left (fun h => c_149 h.1)).2.2.2.1) (hah.resolve_left (fun h => c_149 h.1)).2.2.1)) (fun h9 => absurd h9 (by decide)) (by omega) hP hD hS hl
                · have t_149 : (ah).toInt = 0 := toI_nne c_149 rfl (by decide)
                  refine lv_iload hx hb dX12_cut_152 (lv_at hl 0 rfl) ?_
                  refine lv_if_ne (tgt := 160) hx hb dX12_cut_154 (by decide) (fun c_154 => ?_) (fun c_154 => ?_)
                  · have t_154 : (bk).toInt ≠ 0 := toI_ne c_154 rfl (by decide)
                    refine lv_iload_n hx hb dX12_cut_160 rfl (lv_at hl 3 rfl) ?_
                    refine lv_iconst (v := 1) hx hb dX12_cut_161 (by decide) ?_
                    refine lv_iload hx hb dX12_cut_162 (lv_at hl 1 rfl) ?_
                    refine lv_if_eq (tgt := 177) hx hb dX12_cut_164 (by decide) (fun c_164 => ?_) (fun c9 => False.elim (c9 c_149))
                    have t_164 : (ah).toInt = 0 := toI_eq c_164 rfl (by decide)
                    obtain ⟨s7, hs7, hs8, es7⟩ := setB (a := se2) (x := x5) (k := 12) (by omega) (by decide) (by omega) ((hbk.resolve_left (fun h => c_154 h.1)).2.1)
                    refine lv_aload_n hx hb dX12_cut_177 rfl (lv_at hl 2 rfl) ?_
                    refine va_get (D := (dC, dI)) (ci := 12) (v := .ref (a 95)) (C := RX12) (T := TX12) (N := 163) (fs := fM (vS a (fT vi 0 th3) vj)) hx hb hts iwsRX12_cut_in12 hown hK hP 0 rfl rfl 151 (by decide) (hts _ hm_r_X12_cut_1) (fun _ h9 => h9) rfl dX12_cut_178 ?_
                    refine lv_iload hx hb dX12_cut_181 (lv_at hl 5 rfl) ?_
                    refine va_iald (cA := k 95) (n := 40) (f := (vF 95)) hx hb hK hP 96 95 (WR_get 95 (by decide)) (TR_get 95 (by decide)) (vp_in_nI (show a5 < 40 by omega) (by omega)) dX12_cut_183 ?_
                    refine lv_topi (fun y17 hy17 => ?_)
                    obtain rfl : ((vF 95) a5) = y17 := (hy17.trans (by rw [nI_clamp (by omega)])).symm
                    refine lv_topi (fun y18 hy18 => ?_)
                    obtain rfl : (nI x5) = y18 := (hy18.trans (ex5)).symm
                    refine lv_ishl hx hb dX12_cut_184 ?_
                    refine lv_ior hx hb dX12_cut_185 ?_
                    refine lv_topi (fun y19 hy19 => ?_)
                    obtain rfl : (nI s7) = y19 := (hy19.trans (es7)).symm
                    refine lv_istore_n hx hb dX12_cut_186 rfl hl (by decide) rfl (fun ls (hl : lv_has ls _ ([(3, .int (nI s7)), (7, .int bk), (6, .int ah), (0, .ref h0), (4, .int m2), (5, .int (nI a5))])) => ?_)
                    refine lv_iconst (v := 1) hx hb dX12_cut_187 (by decide) ?_
                    refine lv_istore hx hb dX12_cut_188 hl (by decide) rfl (fun ls (hl : lv_has ls _ ([(4, .int 1), (3, .int (nI s7)), (7, .int bk), (6, .int ah), (0, .ref h0), (5, .int (nI a5))])) => ?_)
                    refine lv_iinc (v := (nI (a5 + 1))) hx hb dX12_cut_190 hl (k := 5) rfl (nI_add a5 1) (by decide) rfl (fun ls (hl : lv_has ls _ ([(5, .int (nI (a5 + 1))), (4, .int 1), (3, .int (nI s7)), (7, .int bk), (6, .int ah), (0, .ref h0)])) => ?_)
                    refine lv_goto (tgt := 39) hx hb dX12_cut_193 (by decide) ?_
                    have hl : lv_has _ _ ([(0, .ref h0), (3, .int (nI s7)), (4, .int 1), (5, .int (nI (a5 + 1)))]) := lv_sub hl [5, 2, 1, 0] rfl
                    exact ih39_1 (a5 + 1) s7 1 _ _ _ (by omega) (by omega) (Or.inr (by omega)) (by rw [bI_set (by omega) es7, hs2]; rfl) (setLow (by omega) es7 hsl2) (setMin (by omega) es7 hmin2 (fun S h1 h2 => h2.back (a := a5) (by omega) eF5 eT5 (hmin2 S h1 h2 yB (hbk.resolve_left (fun h => c_154 h.1)).2.2.2.1) (hbk.resolve_left (fun h => c_154 h.1)).2.2.1)) (fun h9 => absurd h9 (by decide)) (by omega) hP hD hS hl
                  · have t_154 : (bk).toInt = 0 := toI_nne c_154 rfl (by decide)
                    refine lv_goto (tgt := 190) hx hb dX12_cut_157 (by decide) ?_
                    refine lv_iinc (v := (nI (a5 + 1))) hx hb dX12_cut_190 hl (k := 5) rfl (nI_add a5 1) (by decide) rfl (fun ls (hl : lv_has ls _ ([(5, .int (nI (a5 + 1))), (7, .int bk), (6, .int ah), (0, .ref h0), (3, .int (nI se2)), (4, .int m2)])) => ?_)
                    refine lv_goto (tgt := 39) hx hb dX12_cut_193 (by decide) ?_
                    have hl : lv_has _ _ ([(0, .ref h0), (3, .int (nI se2)), (4, .int m2), (5, .int (nI (a5 + 1)))]) := lv_sub hl [3, 4, 5, 0] rfl
                    exact ih39_1 (a5 + 1) se2 m2 _ _ _ (by omega) (by omega) (hm2) (hs2) (hsl2) (hmin2) (fun h9 => (hcl2 h9).next eF5 eT5 hfl5 (hah.resolve_right (fun h => by rw [h.1] at c_149; exact absurd c_149 (by decide))).2 (hbk.resolve_right (fun h => by rw [h.1] at c_154; exact absurd c_154 (by decide))).2) (by omega) hP hD hS hl
  · refine lv_if_ne (tgt := 11) hx hb dX12_cut_6 (by decide) (fun c9 => absurd c9 (by decide)) (fun _ => ?_)
    refine lv_iconst (v := 0) hx hb dX12_cut_9 (by decide) ?_
    refine W.widen (k := 0) (n := 0) (by decide +kernel) (by decide +kernel) ?_
    have e9 : fT (fT (fT vF 99 (vF 99)) 100 (vF 100)) 101 (vF 101) = vF := (fT_id _ _ ((fT_ne _ _ (Nat.ne_of_beq_eq_false rfl)).trans (fT_ne _ _ (Nat.ne_of_beq_eq_false rfl)))).trans ((fT_id _ _ (fT_ne _ _ (Nat.ne_of_beq_eq_false rfl))).trans (fT_id _ _ (rfl)))
    have hP := wr_PF e9 hP
    have hD := wr_DF e9 hD
    clear e9
    exact W.iret (v := 0) hx hb hr (fun t9_ ht hW => ⟨⟨0, (th3, (vF 99), (vF 100), (vF 101)), rfl, by (try dsimp only); exact Or.inl f3_0, by rw [ht]; exact hP, hD⟩, hS.F ht⟩) hS.2.2 dX12_cut_10
end
section
theorem lv_ldcwS {p : Program} {l : Launch} {e : Env} {R : Room} {s : State} {m : MethodId} {args : Array Value} {below : List Frame} {meth : Method} {c : Code} {H : Heap} {locs : List Loc} {cells slots : Nat} {Q : State → Prop} {cc : ByteArray} {pc : Nat} {ls : Array Slot} {rest : List Value} (hexec : p.tables.exec = Jvm.exec) (hb : c.code = cc) {own tx : String} {index q : Nat} (hown : s.vm.findClass own = some m.cls) (hZ : vk_R own index tx q s) (hdg : decode cc pc = .ok (.ldc_w index, 3))
    (k : W p l e R s m args below meth c H locs cells slots Q (F0 m (pc + 3) ls (.ref q :: rest))) : W p l e R s m args below meth c H locs cells slots Q (F0 m pc ls rest) := by
  intro T hT X
  obtain ⟨t, a1, b1⟩ := k T hT X
  refine ⟨t, ?_, b1⟩
  obtain ⟨k9, cf, i, a', hk, hcf, hcp, -, hr, hev'⟩ := Cond.stringRef_spec hown hZ.1
  cases hZ.2.symm.trans hev'
  obtain ⟨k', hk', he⟩ := X.warmed.alike.2.2 _ _ hk
  have hr' : k'.resolved[index]? = some (some (.string q)) := by
    rcases X.warmed.entry hk hk' index with h | ⟨h, -⟩
    · rw [h]; exact hr
    · rw [hr] at h; cases h
  have hdg' : decode c.code (F0 m pc ls rest).pc = .ok (.ldc_w index, 3) := by rw [hb]; exact hdg
  jvm_step X.here [hexec, hdg', ldc_w.wp_string (e := e) (s := T) (f := F0 m pc ls rest) X.here.top hk' (by rw [he]; exact hcf) hcp hr']
  exact a1
/-- what the machine's own String asks of its statics -/
def JdkE (A : Nat → Prop) (U : State) (H : Heap) : Prop := va_Z RJ0 "COMPACT_STRINGS" "Z" (.int 1) A U H ∧ va_Zq "jdk/internal/util/Preconditions" "SIOOBE_FORMATTER" "Ljava/util/function/BiFunction;" A U H
theorem JdkE.kept {A : Nat → Prop} {U : State} {H H1 : Heap} (h : JdkE A U H) (hq : ∀ a : Nat, a < H.size → ¬ A a → H1[a]? = H[a]?) : JdkE A U H1 := ⟨h.1.kept hq, h.2.kept hq⟩
theorem JdkE.narrow {A B : Nat → Prop} {U : State} {H : Heap} (h : JdkE A U H) (hAB : ∀ q, B q → A q) : JdkE B U H := ⟨h.1.narrow hAB, h.2.narrow hAB⟩
theorem JdkE.alike {A : Nat → Prop} {U V : State} {H : Heap} (h : JdkE A U H) (hv : U.vm.Alike V.vm) : JdkE A V H := ⟨va_Z.moved hv h.1, va_Zq.moved hv h.2⟩
theorem JdkE.warm {A : Nat → Prop} {s U : State} {H : Heap} (h : JdkE A s H) (hW : s.WarmedH U.vm) : JdkE A U H := h.alike hW.alike
theorem JdkE.same {A : Nat → Prop} {U V : State} {H : Heap} (h : JdkE A U H) (hv : V.vm = U.vm) : JdkE A V H := h.alike (by rw [hv]; exact Vm.Alike.refl U.vm)
/-- a row of bytes -/
def ArrE (v n : Nat) (f : Nat → Int32) (A : Nat → Prop) (U : State) (H : Heap) : Prop := JdkE A U H ∧ va_T .byte v n (fun j => .int (f j)) A U H
theorem ArrE.kept {v n : Nat} {f : Nat → Int32} {A : Nat → Prop} {U : State} {H H1 : Heap} (h : ArrE v n f A U H) (hq : ∀ a : Nat, a < H.size → ¬ A a → H1[a]? = H[a]?) : ArrE v n f A U H1 := ⟨h.1.kept hq, h.2.kept hq⟩
theorem ArrE.narrow {v n : Nat} {f : Nat → Int32} {A B : Nat → Prop} {U : State} {H : Heap} (h : ArrE v n f A U H) (hAB : ∀ q, B q → A q) : ArrE v n f B U H := ⟨h.1.narrow hAB, h.2.narrow hAB⟩
theorem ArrE.alike {v n : Nat} {f : Nat → Int32} {A : Nat → Prop} {U V : State} {H : Heap} (h : ArrE v n f A U H) (hv : U.vm.Alike V.vm) : ArrE v n f A V H := ⟨h.1.alike hv, va_T.moved hv h.2⟩
theorem ArrE.warm {v n : Nat} {f : Nat → Int32} {A : Nat → Prop} {s U : State} {H : Heap} (h : ArrE v n f A s H) (hW : s.WarmedH U.vm) : ArrE v n f A U H := h.alike hW.alike
theorem ArrE.same {v n : Nat} {f : Nat → Int32} {A : Nat → Prop} {U V : State} {H : Heap} (h : ArrE v n f A U H) (hv : V.vm = U.vm) : ArrE v n f A V H := h.alike (by rw [hv]; exact Vm.Alike.refl U.vm)
/-- a text of n letters -/
def StrE (q n : Nat) (f : Nat → Int32) (A : Nat → Prop) (U : State) (H : Heap) : Prop := JdkE A U H ∧ va_O RJ0 q A U H ∧ va_OF RJ0 "coder" "B" (.int 0) q A U H ∧ ∃ v : Nat, va_OF RJ0 "value" "[B" (.ref v) q A U H ∧ va_T .byte v n (fun j => .int (f j)) A U H
theorem StrE.kept {q n : Nat} {f : Nat → Int32} {A : Nat → Prop} {U : State} {H H1 : Heap} (h : StrE q n f A U H) (hq : ∀ a : Nat, a < H.size → ¬ A a → H1[a]? = H[a]?) : StrE q n f A U H1 := ⟨h.1.kept hq, h.2.1.kept hq, h.2.2.1.kept hq, h.2.2.2.imp (fun _ h9 => ⟨h9.1.kept hq, h9.2.kept hq⟩)⟩
theorem StrE.narrow {q n : Nat} {f : Nat → Int32} {A B : Nat → Prop} {U : State} {H : Heap} (h : StrE q n f A U H) (hAB : ∀ q, B q → A q) : StrE q n f B U H := ⟨h.1.narrow hAB, h.2.1.narrow hAB, h.2.2.1.narrow hAB, h.2.2.2.imp (fun _ h9 => ⟨h9.1.narrow hAB, h9.2.narrow hAB⟩)⟩
theorem StrE.alike {q n : Nat} {f : Nat → Int32} {A : Nat → Prop} {U V : State} {H : Heap} (h : StrE q n f A U H) (hv : U.vm.Alike V.vm) : StrE q n f A V H := ⟨h.1.alike hv, va_O.moved hv h.2.1, va_OF.moved hv h.2.2.1, h.2.2.2.imp (fun _ h9 => ⟨va_OF.moved hv h9.1, va_T.moved hv h9.2⟩)⟩
theorem StrE.warm {q n : Nat} {f : Nat → Int32} {A : Nat → Prop} {s U : State} {H : Heap} (h : StrE q n f A s H) (hW : s.WarmedH U.vm) : StrE q n f A U H := h.alike hW.alike
theorem StrE.same {q n : Nat} {f : Nat → Int32} {A : Nat → Prop} {U V : State} {H : Heap} (h : StrE q n f A U H) (hv : V.vm = U.vm) : StrE q n f A V H := h.alike (by rw [hv]; exact Vm.Alike.refl U.vm)
theorem StrE.recv {q n : Nat} {f : Nat → Int32} {A : Nat → Prop} {s : State} {H : Heap} {locs : List Loc} (h : StrE q n f A s s.heap) (hS : va_S A s.heap H locs) : ∃ cell : Cell, H[q]? = some cell ∧ cell.vm.isStatics = false ∧ s.vm.findClass RJ0 = some cell.cls := by
  obtain ⟨cell, h1, h2, h3, -⟩ := h.2.1.kept hS.2.1
  exact ⟨cell, h1, h2, h3⟩
/-- the letters of the two texts -/
def kf (j : Nat) : Int32 := ([115, 101, 116, 32, 112, 97, 114, 97, 109, 32, 118, 97, 114, 32, 119, 104, 111, 108, 101, 32, 102, 114, 111, 109, 32, 116, 111, 32, 114, 111, 119, 32, 111, 114, 32, 105, 102, 32, 97, 110, 100, 32, 110, 111, 116, 32, 105, 110, 32, 115, 117, 109, 32, 100, 105, 102, 102, 101, 114, 101, 110, 116, 32, 109, 105, 110, 32, 109, 97, 120, 32] : List Int32).getD j 0
def tf (j : Nat) : Int32 := ([118, 97, 114, 32, 120, 32, 119, 104, 111, 108, 101, 32, 102, 114, 111, 109, 32, 116, 111, 32, 114, 111, 119, 32, 114, 32, 58, 32, 111, 114, 32, 60, 61, 32, 62, 61, 32, 61, 32, 100, 105, 102, 102, 101, 114, 101, 110, 116, 32, 44, 32, 59, 32, 109, 105, 110, 32, 109, 97, 120, 32, 42, 32] : List Int32).getD j 0
def c16 (x : Int32) : Int32 := ((x &&& 255).toUInt32 % 65536).toInt32
def kl (j : Nat) : Int32 := c16 (kf j)
def nSp : Nat → Nat
  | 0 => 0
  | n + 1 => nSp n + (if kl n = 32 then 1 else 0)
theorem kl_end : ∀ i, i < 71 → kl i ≠ 32 → i + 1 < 71 := by decide +kernel
theorem nSp_lt : ∀ i, i < 72 → nSp i < 16 → i < 71 := by decide +kernel
/-- the reference's two texts -/
def StrA (A : Nat → Prop) (U : State) (H : Heap) : Prop := (∃ q, vk_R RX12 471 "set param var whole from to row or if and not in sum different min max " q U ∧ StrE q 71 kf A U H) ∧ ∃ q, vk_R RX12 950 "var x whole from to row r : or <= >= = different , ; min max * " q U ∧ StrE q 63 tf A U H
theorem StrA.kept {A : Nat → Prop} {U : State} {H H1 : Heap} (h : StrA A U H) (hq : ∀ a : Nat, a < H.size → ¬ A a → H1[a]? = H[a]?) : StrA A U H1 := ⟨h.1.imp (fun _ h9 => ⟨h9.1, h9.2.kept hq⟩), h.2.imp (fun _ h9 => ⟨h9.1, h9.2.kept hq⟩)⟩
theorem StrA.narrow {A B : Nat → Prop} {U : State} {H : Heap} (h : StrA A U H) (hAB : ∀ q, B q → A q) : StrA B U H := ⟨h.1.imp (fun _ h9 => ⟨h9.1, h9.2.narrow hAB⟩), h.2.imp (fun _ h9 => ⟨h9.1, h9.2.narrow hAB⟩)⟩
theorem StrA.warm {A : Nat → Prop} {s U : State} {H : Heap} (h : StrA A s H) (hW : s.WarmedH U.vm) : StrA A U H := ⟨h.1.imp (fun _ h9 => ⟨vk_R.warm hW h9.1, h9.2.warm hW⟩), h.2.imp (fun _ h9 => ⟨vk_R.warm hW h9.1, h9.2.warm hW⟩)⟩
theorem StrA.same {A : Nat → Prop} {U V : State} {H : Heap} (h : StrA A U H) (hv : V.vm = U.vm) : StrA A V H := ⟨h.1.imp (fun _ h9 => ⟨vk_R.same hv h9.1, h9.2.same hv⟩), h.2.imp (fun _ h9 => ⟨vk_R.same hv h9.1, h9.2.same hv⟩)⟩
theorem nar_c (x : Int32) : narrow .char (.int (x.toUInt32 % 65536).toInt32) = .int (x.toUInt32 % 65536).toInt32 := by
  have h : ∀ y : Int32, narrow .char (.int y) = .int (y.toUInt32 % 65536).toInt32 := fun _ => rfl
  rw [h]
  congr 2
  refine UInt32.toNat_inj.mp ?_
  have h1 : ((x.toUInt32 % 65536).toInt32.toUInt32) = x.toUInt32 % 65536 := rfl
  rw [h1, UInt32.toNat_mod, UInt32.toNat_mod]
  exact Nat.mod_mod _ _
end
section
theorem hd_yJ0_isLatin1_aae02_RJ0 : yJ0_isLatin1_aae02.cls = RJ0 ∧ yJ0_isLatin1_aae02.cls ≠ "java/lang/invoke/MethodHandle" ∧ yJ0_isLatin1_aae02.cls ≠ "java/lang/invoke/VarHandle" ∧ (parseMethodDescriptor yJ0_isLatin1_aae02.desc).map (fun d => d.parameters.length) = some 0 := by decide +kernel
theorem hd_yJ0_charAt_5068e_RJ0 : yJ0_charAt_5068e.cls = RJ0 ∧ yJ0_charAt_5068e.cls ≠ "java/lang/invoke/MethodHandle" ∧ yJ0_charAt_5068e.cls ≠ "java/lang/invoke/VarHandle" ∧ (parseMethodDescriptor yJ0_charAt_5068e.desc).map (fun d => d.parameters.length) = some 1 := by decide +kernel
theorem dJ3_checkIndex_8e157_0 : decode cJ3_checkIndex_8e157 0 = .ok (.iload_n 0, 1) := dk_26 (by decide +kernel)
theorem dJ3_checkIndex_8e157_1 : decode cJ3_checkIndex_8e157 1 = .ok (.ifCond .lt 8, 3) := dk_155 (by decide +kernel)
theorem dJ3_checkIndex_8e157_4 : decode cJ3_checkIndex_8e157 4 = .ok (.iload_n 0, 1) := dk_26 (by decide +kernel)
theorem dJ3_checkIndex_8e157_5 : decode cJ3_checkIndex_8e157 5 = .ok (.iload_n 1, 1) := dk_27 (by decide +kernel)
theorem dJ3_checkIndex_8e157_6 : decode cJ3_checkIndex_8e157 6 = .ok (.if_icmp .lt 10, 3) := dk_161 (by decide +kernel)
theorem dJ3_checkIndex_8e157_16 : decode cJ3_checkIndex_8e157 16 = .ok (.iload_n 0, 1) := dk_26 (by decide +kernel)
theorem dJ3_checkIndex_8e157_17 : decode cJ3_checkIndex_8e157 17 = .ok (.ireturn, 1) := dk_172 (by decide +kernel)
def wsRJ3cia : List Cond := .code yJ3_checkIndex_8e157 cJ3_checkIndex_8e157 3 (some .int) :: ([])
theorem gdwsRJ3cia : wsRJ3cia.all goodWord = true := gdC rfl (by decide +kernel : ([] : List Cond).all goodWord = true)
set_option maxHeartbeats 4000000 in
set_option maxRecDepth 100000 in
/-- Preconditions.checkIndex, within -/
theorem r_J3_checkIndex_8e157a (l : Launch) (dC : Nat → ClassId) (dI : Nat → Nat → Nat) (fq : Nat) (kn : Nat) (nn : Nat) (hkn : kn < nn) (hnn : nn < 2 ^ 31) (sz : Nat) : Met l yJ3_checkIndex_8e157 wsRJ3cia ({ frames := 0, cells := 0, slots := 0, locals := 0 }) (va_Pc [.int (nI kn), .int (nI nn), .ref fq] (fun U => U.heap.size = sz ∧ va_P (dC, dI) vwCl [] U.heap ∧ va_K (dC, dI) vwCl [] U ∧ va_D (fun _ => True) [])) (va_Qi (fun (r : Int32) (u : Unit) => True) (fun (u : Unit) t => True) (va_A [] sz)) 0 0 (va_A [] sz) := by
  refine Met.ofW (cc := cJ3_checkIndex_8e157) (maxL := 3) (ret := (some .int)) (by decide) rfl ?_
  intro p e s m args below meth c s₁ B hml hv
  obtain ⟨rfl, hsz, hP, hK, hD0⟩ := hv
  have hx := B.exec
  have hb := B.bytes
  have hr := B.returns
  have hts := atoms_spec (ws := wsRJ3cia) B.pre
  have hown : s.vm.findClass RJ3 = some m.cls := findClass_of_methodNamed B.named
  have hlocks := B.notSynchronized
  subst hsz
  have hD := hD0.self (sz := s.heap.size)
  generalize hAe : va_A [] s.heap.size = A at hD ⊢
  have hA : ∀ q : Nat, s.heap.size ≤ q → A q := fun q h => by rw [← hAe]; exact Or.inr h
  have hS : va_S A s.heap s.heap [] := va_S.rf
  have hl := lv_entry ([.int (nI kn), .int (nI nn), .ref fq]) (n := 3) (Nat.le_of_ble_eq_true rfl)
  rw [lg_entry_eq]
  generalize (lg_sl ([.int (nI kn), .int (nI nn), .ref fq]) ++ List.replicate (3 - (lg_sl ([.int (nI kn), .int (nI nn), .ref fq])).length) Slot.unset).toArray = ls at hl ⊢
  have hl : lv_has ls 3 [(0, .int (nI kn)), (1, .int (nI nn)), (2, .ref fq)] := hl
  refine lv_iload_n hx hb dJ3_checkIndex_8e157_0 rfl (lv_at hl 0 rfl) ?_
  refine lv_if_lt (tgt := 9) hx hb dJ3_checkIndex_8e157_1 (by decide) (fun c9 => False.elim (by have t9 : ((kn : Nat) : Int) < 0 := toI_lt c9 (nI_toInt (by omega)) (by decide); omega)) (fun c_1 => ?_)
  have t_1 : ¬ ((kn : Nat) : Int) < 0 := toI_nlt c_1 (nI_toInt (by omega)) (by decide)
  refine lv_iload_n hx hb dJ3_checkIndex_8e157_4 rfl (lv_at hl 0 rfl) ?_
  refine lv_iload_n hx hb dJ3_checkIndex_8e157_5 rfl (lv_at hl 1 rfl) ?_
  refine lv_icmp_lt (tgt := 16) hx hb dJ3_checkIndex_8e157_6 (by decide) (fun c_6 => ?_) (fun c9 => False.elim (by have t9 : ¬ ((kn : Nat) : Int) < ((nn : Nat) : Int) := toI_nlt c9 (nI_toInt (by omega)) (nI_toInt (by omega)); omega))
  have t_6 : ((kn : Nat) : Int) < ((nn : Nat) : Int) := toI_lt c_6 (nI_toInt (by omega)) (nI_toInt (by omega))
  refine lv_iload_n hx hb dJ3_checkIndex_8e157_16 rfl (lv_at hl 0 rfl) ?_
  refine W.widen (k := 0) (n := 0) (by decide +kernel) (by decide +kernel) ?_
  exact W.iret (v := (nI kn)) hx hb hr (fun t9_ ht hW => ⟨⟨(nI kn), (), rfl, trivial, trivial⟩, hS.F ht⟩) hS.2.2 dJ3_checkIndex_8e157_17
def wsRJ3cib : List Cond := .code yJ3_checkIndex_8e157 cJ3_checkIndex_8e157 3 (some .int) :: ([])
theorem gdwsRJ3cib : wsRJ3cib.all goodWord = true := gdC rfl (by decide +kernel : ([] : List Cond).all goodWord = true)
set_option maxHeartbeats 4000000 in
set_option maxRecDepth 100000 in
/-- Preconditions.checkIndex, within -/
theorem r_J3_checkIndex_8e157b (l : Launch) (dC : Nat → ClassId) (dI : Nat → Nat → Nat) (kn : Nat) (nn : Nat) (hkn : kn < nn) (hnn : nn < 2 ^ 31) (sz : Nat) : Met l yJ3_checkIndex_8e157 wsRJ3cib ({ frames := 0, cells := 0, slots := 0, locals := 0 }) (va_Pc [.int (nI kn), .int (nI nn), .null] (fun U => U.heap.size = sz ∧ va_P (dC, dI) vwCl [] U.heap ∧ va_K (dC, dI) vwCl [] U ∧ va_D (fun _ => True) [])) (va_Qi (fun (r : Int32) (u : Unit) => True) (fun (u : Unit) t => True) (va_A [] sz)) 0 0 (va_A [] sz) := by
  refine Met.ofW (cc := cJ3_checkIndex_8e157) (maxL := 3) (ret := (some .int)) (by decide) rfl ?_
  intro p e s m args below meth c s₁ B hml hv
  obtain ⟨rfl, hsz, hP, hK, hD0⟩ := hv
  have hx := B.exec
  have hb := B.bytes
  have hr := B.returns
  have hts := atoms_spec (ws := wsRJ3cib) B.pre
  have hown : s.vm.findClass RJ3 = some m.cls := findClass_of_methodNamed B.named
  have hlocks := B.notSynchronized
  subst hsz
  have hD := hD0.self (sz := s.heap.size)
  generalize hAe : va_A [] s.heap.size = A at hD ⊢
  have hA : ∀ q : Nat, s.heap.size ≤ q → A q := fun q h => by rw [← hAe]; exact Or.inr h
  have hS : va_S A s.heap s.heap [] := va_S.rf
  have hl := lv_entry ([.int (nI kn), .int (nI nn), .null]) (n := 3) (Nat.le_of_ble_eq_true rfl)
  rw [lg_entry_eq]
  generalize (lg_sl ([.int (nI kn), .int (nI nn), .null]) ++ List.replicate (3 - (lg_sl ([.int (nI kn), .int (nI nn), .null])).length) Slot.unset).toArray = ls at hl ⊢
  have hl : lv_has ls 3 [(0, .int (nI kn)), (1, .int (nI nn)), (2, .null)] := hl
  refine lv_iload_n hx hb dJ3_checkIndex_8e157_0 rfl (lv_at hl 0 rfl) ?_
  refine lv_if_lt (tgt := 9) hx hb dJ3_checkIndex_8e157_1 (by decide) (fun c9 => False.elim (by have t9 : ((kn : Nat) : Int) < 0 := toI_lt c9 (nI_toInt (by omega)) (by decide); omega)) (fun c_1 => ?_)
  have t_1 : ¬ ((kn : Nat) : Int) < 0 := toI_nlt c_1 (nI_toInt (by omega)) (by decide)
  refine lv_iload_n hx hb dJ3_checkIndex_8e157_4 rfl (lv_at hl 0 rfl) ?_
  refine lv_iload_n hx hb dJ3_checkIndex_8e157_5 rfl (lv_at hl 1 rfl) ?_
  refine lv_icmp_lt (tgt := 16) hx hb dJ3_checkIndex_8e157_6 (by decide) (fun c_6 => ?_) (fun c9 => False.elim (by have t9 : ¬ ((kn : Nat) : Int) < ((nn : Nat) : Int) := toI_nlt c9 (nI_toInt (by omega)) (nI_toInt (by omega)); omega))
  have t_6 : ((kn : Nat) : Int) < ((nn : Nat) : Int) := toI_lt c_6 (nI_toInt (by omega)) (nI_toInt (by omega))
  refine lv_iload_n hx hb dJ3_checkIndex_8e157_16 rfl (lv_at hl 0 rfl) ?_
  refine W.widen (k := 0) (n := 0) (by decide +kernel) (by decide +kernel) ?_
  exact W.iret (v := (nI kn)) hx hb hr (fun t9_ ht hW => ⟨⟨(nI kn), (), rfl, trivial, trivial⟩, hS.F ht⟩) hS.2.2 dJ3_checkIndex_8e157_17
theorem dJ0_checkIndex_df160_0 : decode cJ0_checkIndex_df160 0 = .ok (.iload_n 0, 1) := dk_26 (by decide +kernel)
theorem dJ0_checkIndex_df160_1 : decode cJ0_checkIndex_df160 1 = .ok (.iload_n 1, 1) := dk_27 (by decide +kernel)
theorem dJ0_checkIndex_df160_2 : decode cJ0_checkIndex_df160 2 = .ok (.getstatic 1053, 3) := dk_178 (by decide +kernel)
theorem dJ0_checkIndex_df160_5 : decode cJ0_checkIndex_df160 5 = .ok (.invokestatic 1059, 3) := dk_184 (by decide +kernel)
theorem dJ0_checkIndex_df160_8 : decode cJ0_checkIndex_df160 8 = .ok (.pop, 1) := dk_87 (by decide +kernel)
theorem dJ0_checkIndex_df160_9 : decode cJ0_checkIndex_df160 9 = .ok (.return_, 1) := dk_177 (by decide +kernel)
def wsRJ0ci : List Cond := .code yJ0_checkIndex_df160 cJ0_checkIndex_df160 2 none :: ([.fieldLink RJ0 1053 "jdk/internal/util/Preconditions" "SIOOBE_FORMATTER" "Ljava/util/function/BiFunction;"] ++ (va_wsS RJ0 1059 yJ3_checkIndex_8e157 wsRJ3cib) ++ (va_wsS RJ0 1059 yJ3_checkIndex_8e157 wsRJ3cia))
theorem gwsRJ0ci_0 : GoodIn wsRJ0ci (va_wsS RJ0 1059 yJ3_checkIndex_8e157 wsRJ3cib) := goodIn_sub (fun _ h => List.mem_cons_of_mem _ (List.mem_append_left _ (List.mem_append_right _ h))) (gdS (by decide +kernel) gdwsRJ3cib)
theorem gwsRJ0ci_1 : GoodIn wsRJ0ci (va_wsS RJ0 1059 yJ3_checkIndex_8e157 wsRJ3cia) := goodIn_sub (fun _ h => List.mem_cons_of_mem _ (List.mem_append_right _ h)) (gdS (by decide +kernel) gdwsRJ3cia)
theorem gdwsRJ0ci : wsRJ0ci.all goodWord = true := gdC rfl (gdA (gdA (by decide +kernel : ([.fieldLink RJ0 1053 "jdk/internal/util/Preconditions" "SIOOBE_FORMATTER" "Ljava/util/function/BiFunction;"] : List Cond).all goodWord = true) (gdS (by decide +kernel) gdwsRJ3cib)) (gdS (by decide +kernel) gdwsRJ3cia))
theorem hm_r_J0_checkIndex_df160_0 : (.fieldLink RJ0 1053 "jdk/internal/util/Preconditions" "SIOOBE_FORMATTER" "Ljava/util/function/BiFunction;" : Cond) ∈ wsRJ0ci := by decide +kernel
set_option maxHeartbeats 4000000 in
set_option maxRecDepth 100000 in
/-- String.checkIndex, within -/
theorem r_J0_checkIndex_df160 (l : Launch) (dC : Nat → ClassId) (dI : Nat → Nat → Nat) (kn : Nat) (nn : Nat) (hkn : kn < nn) (hnn : nn < 2 ^ 31) (sz : Nat) : Met l yJ0_checkIndex_df160 wsRJ0ci ({ frames := 1, cells := 0, slots := 0, locals := 22 }) (va_Pc [.int (nI kn), .int (nI nn)] (fun U => U.heap.size = sz ∧ va_P (dC, dI) vwCl [] U.heap ∧ va_K (dC, dI) vwCl [] U ∧ va_D (fun _ => True) [] ∧ JdkE (va_A [] sz) U U.heap)) (va_Qv (fun (u : Unit) => True) (fun (u : Unit) t => True) (va_A [] sz)) 0 0 (va_A [] sz) := by
  refine Met.ofW (cc := cJ0_checkIndex_df160) (maxL := 2) (ret := none) (by decide) rfl ?_
  intro p e s m args below meth c s₁ B hml hv
  obtain ⟨rfl, hsz, hP, hK, hD0, hE⟩ := hv
  have hx := B.exec
  have hb := B.bytes
  have hr := B.returns
  have hts := atoms_spec (ws := wsRJ0ci) B.pre
  have hown : s.vm.findClass RJ0 = some m.cls := findClass_of_methodNamed B.named
  have hlocks := B.notSynchronized
  subst hsz
  have hD := hD0.self (sz := s.heap.size)
  generalize hAe : va_A [] s.heap.size = A at hD hE ⊢
  have hA : ∀ q : Nat, s.heap.size ≤ q → A q := fun q h => by rw [← hAe]; exact Or.inr h
  have hS : va_S A s.heap s.heap [] := va_S.rf
  have hl := lv_entry ([.int (nI kn), .int (nI nn)]) (n := 2) (Nat.le_of_ble_eq_true rfl)
  rw [lg_entry_eq]
  generalize (lg_sl ([.int (nI kn), .int (nI nn)]) ++ List.replicate (2 - (lg_sl ([.int (nI kn), .int (nI nn)])).length) Slot.unset).toArray = ls at hl ⊢
  have hl : lv_has ls 2 [(0, .int (nI kn)), (1, .int (nI nn))] := hl
  refine lv_iload_n hx hb dJ0_checkIndex_df160_0 rfl (lv_at hl 0 rfl) ?_
  refine lv_iload_n hx hb dJ0_checkIndex_df160_1 rfl (lv_at hl 1 rfl) ?_
  rcases hE.2 with hz | ⟨fq, hz⟩
  · refine va_gets hx hb hz hS hown (hts _ hm_r_J0_checkIndex_df160_0) (fun _ h9 => h9) dJ0_checkIndex_df160_2 ?_
    have hFc := noneFree hS hA
    refine va_calli (va_runS (As := [.int (nI kn), .int (nI nn), .null]) (rest := []) ⟨hx, hb, hml, hown, hts⟩ (r_J3_checkIndex_8e157b l dC dI kn nn (by first | with_reducible assumption | decide | omega | rfl | assumption) (by first | with_reducible assumption | decide | omega | rfl | assumption) s.heap.size) (va_cwS 3 hts gwsRJ0ci_0 rfl rfl rfl (by decide +kernel) ⟨by decide +kernel, by decide +kernel⟩) ⟨fun a U g mk q => by obtain ⟨q0, q1, qP, qK, qD⟩ := q; exact ⟨q0, q1, qP, va_K.moved (u := U) (U := U.calling g mk a) (Vm.Alike.refl U.vm) qK, qD⟩, fun U hU9 hW => ⟨rfl, by rw [hU9], by rw [hU9]; exact nilP, va_K.moved hW.alike (hK.sub (tys' := []) [] rfl), nilD⟩⟩ rfl rfl hl.1 rfl (lv_room (Nat.le_of_ble_eq_true rfl)) dJ0_checkIndex_df160_5 (by decide +kernel)) hS (fun q _ h => hFc q h) hFc (fun r5 u t9_ H1 locs ht hvm hw9 hB9 hz1 hk1 hS => ?_)
    have hP := keepAll hP hk1
    clear hB9
    generalize H1 = H at hP hS ⊢
    have hP : va_P (dC, dI) vwCl ([]) H := hP
    have hD := fz_sd hP (hD) rfl
    refine lv_pop hx hb dJ0_checkIndex_df160_8 rfl ?_
    refine W.widen (k := 0) (n := 0) (by decide +kernel) (by decide +kernel) ?_
    exact W.vret hx hb hr (fun t9_ ht hW => ⟨⟨(), rfl, trivial, trivial⟩, hS.F ht⟩) hS.2.2 dJ0_checkIndex_df160_9
  · refine va_gets hx hb hz hS hown (hts _ hm_r_J0_checkIndex_df160_0) (fun _ h9 => h9) dJ0_checkIndex_df160_2 ?_
    have hFc := noneFree hS hA
    refine va_calli (va_runS (As := [.int (nI kn), .int (nI nn), .ref fq]) (rest := []) ⟨hx, hb, hml, hown, hts⟩ (r_J3_checkIndex_8e157a l dC dI fq kn nn (by first | with_reducible assumption | decide | omega | rfl | assumption) (by first | with_reducible assumption | decide | omega | rfl | assumption) s.heap.size) (va_cwS 3 hts gwsRJ0ci_1 rfl rfl rfl (by decide +kernel) ⟨by decide +kernel, by decide +kernel⟩) ⟨fun a U g mk q => by obtain ⟨q0, q1, qP, qK, qD⟩ := q; exact ⟨q0, q1, qP, va_K.moved (u := U) (U := U.calling g mk a) (Vm.Alike.refl U.vm) qK, qD⟩, fun U hU9 hW => ⟨rfl, by rw [hU9], by rw [hU9]; exact nilP, va_K.moved hW.alike (hK.sub (tys' := []) [] rfl), nilD⟩⟩ rfl rfl hl.1 rfl (lv_room (Nat.le_of_ble_eq_true rfl)) dJ0_checkIndex_df160_5 (by decide +kernel)) hS (fun q _ h => hFc q h) hFc (fun r5_1 u t9_ H1 locs ht hvm hw9 hB9 hz1 hk1 hS => ?_)
    have hP := keepAll hP hk1
    clear hB9
    generalize H1 = H at hP hS ⊢
    have hP : va_P (dC, dI) vwCl ([]) H := hP
    have hD := fz_sd hP (hD) rfl
    refine lv_pop hx hb dJ0_checkIndex_df160_8 rfl ?_
    refine W.widen (k := 0) (n := 0) (by decide +kernel) (by decide +kernel) ?_
    exact W.vret hx hb hr (fun t9_ ht hW => ⟨⟨(), rfl, trivial, trivial⟩, hS.F ht⟩) hS.2.2 dJ0_checkIndex_df160_9
theorem dJ1_charAt_3b067_0 : decode cJ1_charAt_3b067 0 = .ok (.iload_n 1, 1) := dk_27 (by decide +kernel)
theorem dJ1_charAt_3b067_1 : decode cJ1_charAt_3b067 1 = .ok (.aload_n 0, 1) := dk_42 (by decide +kernel)
theorem dJ1_charAt_3b067_2 : decode cJ1_charAt_3b067 2 = .ok (.arraylength, 1) := dk_190 (by decide +kernel)
theorem dJ1_charAt_3b067_3 : decode cJ1_charAt_3b067 3 = .ok (.invokestatic 9, 3) := dk_184 (by decide +kernel)
theorem dJ1_charAt_3b067_6 : decode cJ1_charAt_3b067 6 = .ok (.aload_n 0, 1) := dk_42 (by decide +kernel)
theorem dJ1_charAt_3b067_7 : decode cJ1_charAt_3b067 7 = .ok (.iload_n 1, 1) := dk_27 (by decide +kernel)
theorem dJ1_charAt_3b067_8 : decode cJ1_charAt_3b067 8 = .ok (.baload, 1) := dk_51 (by decide +kernel)
theorem dJ1_charAt_3b067_9 : decode cJ1_charAt_3b067 9 = .ok (.sipush 255, 3) := dk_17 (by decide +kernel)
theorem dJ1_charAt_3b067_12 : decode cJ1_charAt_3b067 12 = .ok (.iand, 1) := dk_126 (by decide +kernel)
theorem dJ1_charAt_3b067_13 : decode cJ1_charAt_3b067 13 = .ok (.i2c, 1) := dk_146 (by decide +kernel)
theorem dJ1_charAt_3b067_14 : decode cJ1_charAt_3b067 14 = .ok (.ireturn, 1) := dk_172 (by decide +kernel)
def wsRJ1ca : List Cond := .code yJ1_charAt_3b067 cJ1_charAt_3b067 2 (some .char) :: ([] ++ (va_wsS RJ1 9 yJ0_checkIndex_df160 wsRJ0ci))
theorem gwsRJ1ca_0 : GoodIn wsRJ1ca (va_wsS RJ1 9 yJ0_checkIndex_df160 wsRJ0ci) := goodIn_sub (fun _ h => List.mem_cons_of_mem _ (List.mem_append_right _ h)) (gdS (by decide +kernel) gdwsRJ0ci)
theorem gdwsRJ1ca : wsRJ1ca.all goodWord = true := gdC rfl (gdA (by decide +kernel : ([] : List Cond).all goodWord = true) (gdS (by decide +kernel) gdwsRJ0ci))
set_option maxHeartbeats 4000000 in
set_option maxRecDepth 100000 in
/-- StringLatin1.charAt, within -/
theorem r_J1_charAt_3b067 (l : Launch) (dC : Nat → ClassId) (dI : Nat → Nat → Nat) (vq : Nat) (fB : Nat → Int32) (kn : Nat) (nn : Nat) (hkn : kn < nn) (hnn : nn < 2 ^ 31) (sz : Nat) : Met l yJ1_charAt_3b067 wsRJ1ca ({ frames := 2, cells := 0, slots := 0, locals := 43 }) (va_Pc [.ref vq, .int (nI kn)] (fun U => U.heap.size = sz ∧ va_P (dC, dI) vwCl [] U.heap ∧ va_K (dC, dI) vwCl [] U ∧ va_D (fun _ => True) [] ∧ (ArrE vq nn fB) (va_A [] sz) U U.heap)) (va_Qi (fun (r : Int32) (u : Unit) => (narrow .char (.int r) = .int r) ∧ (r = c16 (fB kn))) (fun (u : Unit) t => True) (va_A [] sz)) 0 0 (va_A [] sz) := by
  refine Met.ofW (cc := cJ1_charAt_3b067) (maxL := 2) (ret := (some .char)) (by decide) rfl ?_
  intro p e s m args below meth c s₁ B hml hv
  obtain ⟨rfl, hsz, hP, hK, hD0, hE⟩ := hv
  have hx := B.exec
  have hb := B.bytes
  have hr := B.returns
  have hts := atoms_spec (ws := wsRJ1ca) B.pre
  have hown : s.vm.findClass RJ1 = some m.cls := findClass_of_methodNamed B.named
  have hlocks := B.notSynchronized
  subst hsz
  have hD := hD0.self (sz := s.heap.size)
  generalize hAe : va_A [] s.heap.size = A at hD hE ⊢
  have hA : ∀ q : Nat, s.heap.size ≤ q → A q := fun q h => by rw [← hAe]; exact Or.inr h
  have hS : va_S A s.heap s.heap [] := va_S.rf
  have hl := lv_entry ([.ref vq, .int (nI kn)]) (n := 2) (Nat.le_of_ble_eq_true rfl)
  rw [lg_entry_eq]
  generalize (lg_sl ([.ref vq, .int (nI kn)]) ++ List.replicate (2 - (lg_sl ([.ref vq, .int (nI kn)])).length) Slot.unset).toArray = ls at hl ⊢
  have hl : lv_has ls 2 [(0, .ref vq), (1, .int (nI kn))] := hl
  refine lv_iload_n hx hb dJ1_charAt_3b067_0 rfl (lv_at hl 1 rfl) ?_
  refine lv_aload_n hx hb dJ1_charAt_3b067_1 rfl (lv_at hl 0 rfl) ?_
  have hTB := hE.2
  refine va_tlen hx hb hTB hS (v := nI nn) rfl dJ1_charAt_3b067_2 ?_
  have hFc := noneFree hS hA
  refine va_callv (va_runS (As := [.int (nI kn), .int (nI nn)]) (rest := []) ⟨hx, hb, hml, hown, hts⟩ (r_J0_checkIndex_df160 l dC dI kn nn (by first | with_reducible assumption | decide | omega | rfl | assumption) (by first | with_reducible assumption | decide | omega | rfl | assumption) s.heap.size) (va_cwS 2 hts gwsRJ1ca_0 rfl rfl rfl (by decide +kernel) ⟨by decide +kernel, by decide +kernel⟩) ⟨fun a U g mk q => by obtain ⟨q0, q1, qP, qK, qD, qE⟩ := q; exact ⟨q0, q1, qP, va_K.moved (u := U) (U := U.calling g mk a) (Vm.Alike.refl U.vm) qK, qD, qE.same rfl⟩, fun U hU9 hW => ⟨rfl, by rw [hU9], by rw [hU9]; exact nilP, va_K.moved hW.alike (hK.sub (tys' := []) [] rfl), nilD, by rw [hU9]; exact (((hE.1 : JdkE A s s.heap).kept hS.2.1).narrow (fun q h => hFc q h)).warm hW⟩⟩ rfl rfl hl.1 rfl (lv_room (Nat.le_of_ble_eq_true rfl)) dJ1_charAt_3b067_3 (by decide +kernel)) hS (fun q _ h => hFc q h) hFc (fun u t9_ H1 locs ht hvm hw9 hB9 hz1 hk1 hS => ?_)
  have hP := keepAll hP hk1
  clear hB9
  generalize H1 = H at hP hS ⊢
  have hP : va_P (dC, dI) vwCl ([]) H := hP
  have hD := fz_sd hP (hD) rfl
  refine lv_aload_n hx hb dJ1_charAt_3b067_6 rfl (lv_at hl 0 rfl) ?_
  refine lv_iload_n hx hb dJ1_charAt_3b067_7 rfl (lv_at hl 1 rfl) ?_
  refine va_tb hx hb hTB hS (vp_in_nI (show kn < nn by omega) (by omega)) (v := .int (fB kn)) (by rw [nI_clamp (by omega)]) dJ1_charAt_3b067_8 ?_
  refine lv_sipush (v := 255) hx hb dJ1_charAt_3b067_9 (by decide) ?_
  refine lv_iand hx hb dJ1_charAt_3b067_12 ?_
  obtain ⟨rC, hrC⟩ : ∃ rC, rC = ((((fB kn) &&& 255)).toUInt32 % 65536).toInt32 := ⟨_, rfl⟩
  refine lv_i2c hx hb dJ1_charAt_3b067_13 hrC.symm ?_
  refine W.widen (k := 0) (n := 0) (by decide +kernel) (by decide +kernel) ?_
  exact W.zret (v := rC) hx hb hr (by rw [hrC]; exact nar_c _) (fun t9_ ht hW => ⟨⟨rC, (), rfl, by (try dsimp only); exact ⟨by rw [hrC]; exact nar_c _, hrC⟩, trivial⟩, hS.F ht⟩) hS.2.2 dJ1_charAt_3b067_14
theorem dJ0_isLatin1_aae02_0 : decode cJ0_isLatin1_aae02 0 = .ok (.getstatic 38, 3) := dk_178 (by decide +kernel)
theorem dJ0_isLatin1_aae02_3 : decode cJ0_isLatin1_aae02 3 = .ok (.ifCond .eq 14, 3) := dk_153 (by decide +kernel)
theorem dJ0_isLatin1_aae02_6 : decode cJ0_isLatin1_aae02 6 = .ok (.aload_n 0, 1) := dk_42 (by decide +kernel)
theorem dJ0_isLatin1_aae02_7 : decode cJ0_isLatin1_aae02 7 = .ok (.getfield 15, 3) := dk_180 (by decide +kernel)
theorem dJ0_isLatin1_aae02_10 : decode cJ0_isLatin1_aae02 10 = .ok (.ifCond .ne 7, 3) := dk_154 (by decide +kernel)
theorem dJ0_isLatin1_aae02_13 : decode cJ0_isLatin1_aae02 13 = .ok (.iconst 1, 1) := dk_4 (by decide +kernel)
theorem dJ0_isLatin1_aae02_14 : decode cJ0_isLatin1_aae02 14 = .ok (.goto 4, 3) := dk_167 (by decide +kernel)
theorem dJ0_isLatin1_aae02_18 : decode cJ0_isLatin1_aae02 18 = .ok (.ireturn, 1) := dk_172 (by decide +kernel)
def wsRJ0il : List Cond := .code yJ0_isLatin1_aae02 cJ0_isLatin1_aae02 1 (some .boolean) :: ([.fieldLink RJ0 38 "java/lang/String" "COMPACT_STRINGS" "Z", .fieldLink RJ0 15 "java/lang/String" "coder" "B"])
theorem gdwsRJ0il : wsRJ0il.all goodWord = true := gdC rfl (by decide +kernel : ([.fieldLink RJ0 38 "java/lang/String" "COMPACT_STRINGS" "Z", .fieldLink RJ0 15 "java/lang/String" "coder" "B"] : List Cond).all goodWord = true)
set_option maxHeartbeats 4000000 in
set_option maxRecDepth 100000 in
/-- String.isLatin1 -/
theorem r_J0_isLatin1_aae02 (l : Launch) (dC : Nat → ClassId) (dI : Nat → Nat → Nat) (qS : Nat) (nn : Nat) (fB : Nat → Int32) (sz : Nat) : Met l yJ0_isLatin1_aae02 wsRJ0il ({ frames := 0, cells := 0, slots := 0, locals := 0 }) (va_Pc [.ref qS] (fun U => U.heap.size = sz ∧ va_P (dC, dI) vwCl [] U.heap ∧ va_K (dC, dI) vwCl [] U ∧ va_D (fun _ => True) [] ∧ (StrE qS nn fB) (va_A [] sz) U U.heap)) (va_Qi (fun (r : Int32) (u : Unit) => r = 1) (fun (u : Unit) t => True) (va_A [] sz)) 0 0 (va_A [] sz) := by
  refine Met.ofW (cc := cJ0_isLatin1_aae02) (maxL := 1) (ret := (some .boolean)) (by decide) rfl ?_
  intro p e s m args below meth c s₁ B hml hv
  obtain ⟨rfl, hsz, hP, hK, hD0, hE⟩ := hv
  have hx := B.exec
  have hb := B.bytes
  have hr := B.returns
  have hts := atoms_spec (ws := wsRJ0il) B.pre
  have hown : s.vm.findClass RJ0 = some m.cls := findClass_of_methodNamed B.named
  have hlocks := B.notSynchronized
  subst hsz
  have hD := hD0.self (sz := s.heap.size)
  generalize hAe : va_A [] s.heap.size = A at hD hE ⊢
  have hA : ∀ q : Nat, s.heap.size ≤ q → A q := fun q h => by rw [← hAe]; exact Or.inr h
  have hS : va_S A s.heap s.heap [] := va_S.rf
  have hl := lv_entry ([.ref qS]) (n := 1) (Nat.le_of_ble_eq_true rfl)
  rw [lg_entry_eq]
  generalize (lg_sl ([.ref qS]) ++ List.replicate (1 - (lg_sl ([.ref qS])).length) Slot.unset).toArray = ls at hl ⊢
  have hl : lv_has ls 1 [(0, .ref qS)] := hl
  refine va_gets hx hb hE.1.1 hS hown (hts (.fieldLink RJ0 38 "java/lang/String" "COMPACT_STRINGS" "Z") (by decide +kernel)) (fun _ h9 => h9) dJ0_isLatin1_aae02_0 ?_
  refine lv_if_eq (tgt := 17) hx hb dJ0_isLatin1_aae02_3 (by decide) (fun c9 => absurd c9 (by decide)) (fun _ => ?_)
  refine lv_aload_n hx hb dJ0_isLatin1_aae02_6 rfl (lv_at hl 0 rfl) ?_
  refine vk_getf hx hb hE.2.2.1 hS hown (hts (.fieldLink RJ0 15 "java/lang/String" "coder" "B") (by decide +kernel)) (fun _ h9 => h9) dJ0_isLatin1_aae02_7 ?_
  refine lv_if_ne (tgt := 17) hx hb dJ0_isLatin1_aae02_10 (by decide) (fun c9 => absurd c9 (by decide)) (fun _ => ?_)
  refine lv_iconst (v := 1) hx hb dJ0_isLatin1_aae02_13 (by decide) ?_
  refine lv_goto (tgt := 18) hx hb dJ0_isLatin1_aae02_14 (by decide) ?_
  refine W.widen (k := 0) (n := 0) (by decide +kernel) (by decide +kernel) ?_
  exact W.zret (v := 1) hx hb hr rfl (fun t9_ ht hW => ⟨⟨1, (), rfl, by (first | rfl | assumption | trivial | omega | (simp []; done) | (simp; omega)), trivial⟩, hS.F ht⟩) hS.2.2 dJ0_isLatin1_aae02_18
theorem dJ0_charAt_5068e_0 : decode cJ0_charAt_5068e 0 = .ok (.aload_n 0, 1) := dk_42 (by decide +kernel)
theorem dJ0_charAt_5068e_1 : decode cJ0_charAt_5068e 1 = .ok (.invokevirtual 492, 3) := dk_182 (by decide +kernel)
theorem dJ0_charAt_5068e_4 : decode cJ0_charAt_5068e 4 = .ok (.ifCond .eq 12, 3) := dk_153 (by decide +kernel)
theorem dJ0_charAt_5068e_7 : decode cJ0_charAt_5068e 7 = .ok (.aload_n 0, 1) := dk_42 (by decide +kernel)
theorem dJ0_charAt_5068e_8 : decode cJ0_charAt_5068e 8 = .ok (.getfield 9, 3) := dk_180 (by decide +kernel)
theorem dJ0_charAt_5068e_11 : decode cJ0_charAt_5068e 11 = .ok (.iload_n 1, 1) := dk_27 (by decide +kernel)
theorem dJ0_charAt_5068e_12 : decode cJ0_charAt_5068e 12 = .ok (.invokestatic 495, 3) := dk_184 (by decide +kernel)
theorem dJ0_charAt_5068e_15 : decode cJ0_charAt_5068e 15 = .ok (.ireturn, 1) := dk_172 (by decide +kernel)
def wsRJ0ca : List Cond := .code yJ0_charAt_5068e cJ0_charAt_5068e 2 (some .char) :: ([.fieldLink RJ0 9 "java/lang/String" "value" "[B"] ++ (wsV RJ0 492 RJ0 yJ0_isLatin1_aae02 wsRJ0il) ++ (va_wsS RJ0 495 yJ1_charAt_3b067 wsRJ1ca))
theorem gwsRJ0ca_0 : GoodIn wsRJ0ca (wsV RJ0 492 RJ0 yJ0_isLatin1_aae02 wsRJ0il) := goodIn_sub (fun _ h => List.mem_cons_of_mem _ (List.mem_append_left _ (List.mem_append_right _ h))) (gdV (by decide +kernel) gdwsRJ0il)
theorem gwsRJ0ca_1 : GoodIn wsRJ0ca (va_wsS RJ0 495 yJ1_charAt_3b067 wsRJ1ca) := goodIn_sub (fun _ h => List.mem_cons_of_mem _ (List.mem_append_right _ h)) (gdS (by decide +kernel) gdwsRJ1ca)
theorem gdwsRJ0ca : wsRJ0ca.all goodWord = true := gdC rfl (gdA (gdA (by decide +kernel : ([.fieldLink RJ0 9 "java/lang/String" "value" "[B"] : List Cond).all goodWord = true) (gdV (by decide +kernel) gdwsRJ0il)) (gdS (by decide +kernel) gdwsRJ1ca))
set_option maxHeartbeats 4000000 in
set_option maxRecDepth 100000 in
/-- String.charAt, within -/
theorem r_J0_charAt_5068e (l : Launch) (dC : Nat → ClassId) (dI : Nat → Nat → Nat) (qS : Nat) (fB : Nat → Int32) (kn : Nat) (nn : Nat) (hkn : kn < nn) (hnn : nn < 2 ^ 31) (sz : Nat) : Met l yJ0_charAt_5068e wsRJ0ca ({ frames := 3, cells := 0, slots := 0, locals := 64 }) (va_Pc [.ref qS, .int (nI kn)] (fun U => U.heap.size = sz ∧ va_P (dC, dI) vwCl [] U.heap ∧ va_K (dC, dI) vwCl [] U ∧ va_D (fun _ => True) [] ∧ (StrE qS nn fB) (va_A [] sz) U U.heap)) (va_Qi (fun (r : Int32) (u : Unit) => (narrow .char (.int r) = .int r) ∧ (r = c16 (fB kn))) (fun (u : Unit) t => True) (va_A [] sz)) 0 0 (va_A [] sz) := by
  refine Met.ofW (cc := cJ0_charAt_5068e) (maxL := 2) (ret := (some .char)) (by decide) rfl ?_
  intro p e s m args below meth c s₁ B hml hv
  obtain ⟨rfl, hsz, hP, hK, hD0, hE⟩ := hv
  have hx := B.exec
  have hb := B.bytes
  have hr := B.returns
  have hts := atoms_spec (ws := wsRJ0ca) B.pre
  have hown : s.vm.findClass RJ0 = some m.cls := findClass_of_methodNamed B.named
  have hlocks := B.notSynchronized
  subst hsz
  have hD := hD0.self (sz := s.heap.size)
  generalize hAe : va_A [] s.heap.size = A at hD hE ⊢
  have hA : ∀ q : Nat, s.heap.size ≤ q → A q := fun q h => by rw [← hAe]; exact Or.inr h
  have hS : va_S A s.heap s.heap [] := va_S.rf
  have hl := lv_entry ([.ref qS, .int (nI kn)]) (n := 2) (Nat.le_of_ble_eq_true rfl)
  rw [lg_entry_eq]
  generalize (lg_sl ([.ref qS, .int (nI kn)]) ++ List.replicate (2 - (lg_sl ([.ref qS, .int (nI kn)])).length) Slot.unset).toArray = ls at hl ⊢
  have hl : lv_has ls 2 [(0, .ref qS), (1, .int (nI kn))] := hl
  refine lv_aload_n hx hb dJ0_charAt_5068e_0 rfl (lv_at hl 0 rfl) ?_
  have hFc := noneFree hS hA
  refine va_calli (va_runV (As := []) (rest := []) ⟨hx, hb, hml, hown, hts⟩ (r_J0_isLatin1_aae02 l dC dI qS nn fB s.heap.size) (cwV 0 hts gwsRJ0ca_0 rfl rfl rfl hd_yJ0_isLatin1_aae02_RJ0 (by decide +kernel)) ⟨fun a U g mk q => by obtain ⟨q0, q1, qP, qK, qD, qE⟩ := q; exact ⟨q0, q1, qP, va_K.moved (u := U) (U := U.calling g mk a) (Vm.Alike.refl U.vm) qK, qD, qE.same rfl⟩, hE.recv hS, fun U hU9 hW => ⟨rfl, by rw [hU9], by rw [hU9]; exact nilP, va_K.moved hW.alike (hK.sub (tys' := []) [] rfl), nilD, by rw [hU9]; exact (((hE : (StrE qS nn fB) A s s.heap).kept hS.2.1).narrow (fun q h => hFc q h)).warm hW⟩⟩ rfl rfl hl.1 rfl (lv_room (Nat.le_of_ble_eq_true rfl)) dJ0_charAt_5068e_1 (by decide +kernel)) hS (fun q _ h => hFc q h) hFc (fun r1 u t9_ H1 locs ht hvm hw9 hB9 hz1 hk1 hS => ?_)
  have hP := keepAll hP hk1
  clear hB9
  generalize H1 = H at hP hS ⊢
  have hP : va_P (dC, dI) vwCl ([]) H := hP
  have hD := fz_sd hP (hD) rfl
  obtain rfl := hw9
  refine lv_if_eq (tgt := 16) hx hb dJ0_charAt_5068e_4 (by decide) (fun c9 => absurd c9 (by decide)) (fun _ => ?_)
  refine lv_aload_n hx hb dJ0_charAt_5068e_7 rfl (lv_at hl 0 rfl) ?_
  obtain ⟨vB, hvB, hfB⟩ := hE.2.2.2
  refine vk_getf hx hb hvB hS hown (hts (.fieldLink RJ0 9 "java/lang/String" "value" "[B") (by decide +kernel)) (fun _ h9 => h9) dJ0_charAt_5068e_8 ?_
  refine lv_iload_n hx hb dJ0_charAt_5068e_11 rfl (lv_at hl 1 rfl) ?_
  have hFc := noneFree hS hA
  refine va_calli (va_runS (As := [.ref vB, .int (nI kn)]) (rest := []) ⟨hx, hb, hml, hown, hts⟩ (r_J1_charAt_3b067 l dC dI vB fB kn nn (by first | with_reducible assumption | decide | omega | rfl | assumption) (by first | with_reducible assumption | decide | omega | rfl | assumption) H.size) (va_cwS 2 hts gwsRJ0ca_1 rfl rfl rfl (by decide +kernel) ⟨by decide +kernel, by decide +kernel⟩) ⟨fun a U g mk q => by obtain ⟨q0, q1, qP, qK, qD, qE⟩ := q; exact ⟨q0, q1, qP, va_K.moved (u := U) (U := U.calling g mk a) (Vm.Alike.refl U.vm) qK, qD, qE.same rfl⟩, fun U hU9 hW => ⟨rfl, by rw [hU9], by rw [hU9]; exact nilP, va_K.moved hW.alike (hK.sub (tys' := []) [] rfl), nilD, by rw [hU9]; exact ((((show ArrE vB nn fB A s s.heap from ⟨hE.1, hfB⟩) : (ArrE vB nn fB) A s s.heap).kept hS.2.1).narrow (fun q h => hFc q h)).warm hW⟩⟩ rfl rfl hl.1 rfl (lv_room (Nat.le_of_ble_eq_true rfl)) dJ0_charAt_5068e_12 (by decide +kernel)) hS (fun q _ h => hFc q h) hFc (fun r12 u t9_ H1 locs ht hvm hw9 hB9 hz1 hk1 hS => ?_)
  have hP := keepAll hP hk1
  clear hB9
  generalize H1 = H at hP hS ⊢
  have hP : va_P (dC, dI) vwCl ([]) H := hP
  have hD := fz_sd hP (hD) rfl
  revert hw9
  refine fz_a2 ?_
  intro f12_0 f12_1
  refine W.widen (k := 0) (n := 0) (by decide +kernel) (by decide +kernel) ?_
  exact W.zret (v := r12) hx hb hr f12_0 (fun t9_ ht hW => ⟨⟨r12, (), rfl, by (try dsimp only); exact ⟨f12_0, f12_1⟩, trivial⟩, hS.F ht⟩) hS.2.2 dJ0_charAt_5068e_15
theorem dX12_keyLetter_0 : decode cX12_keyLetter 0 = .ok (.ldc_w 471, 3) := dk_19 (by decide +kernel)
theorem dX12_keyLetter_3 : decode cX12_keyLetter 3 = .ok (.iload_n 0, 1) := dk_26 (by decide +kernel)
theorem dX12_keyLetter_4 : decode cX12_keyLetter 4 = .ok (.invokevirtual 473, 3) := dk_182 (by decide +kernel)
theorem dX12_keyLetter_7 : decode cX12_keyLetter 7 = .ok (.ireturn, 1) := dk_172 (by decide +kernel)
def wsRX12_keyLetter : List Cond := .code yX12_keyLetter cX12_keyLetter 1 (some .int) :: ([] ++ (wsV RX12 473 RJ0 yJ0_charAt_5068e wsRJ0ca))
theorem gwsRX12_keyLetter_0 : GoodIn wsRX12_keyLetter (wsV RX12 473 RJ0 yJ0_charAt_5068e wsRJ0ca) := goodIn_sub (fun _ h => List.mem_cons_of_mem _ (List.mem_append_right _ h)) (gdV (by decide +kernel) gdwsRJ0ca)
theorem gdwsRX12_keyLetter : wsRX12_keyLetter.all goodWord = true := gdC rfl (gdA (by decide +kernel : ([] : List Cond).all goodWord = true) (gdV (by decide +kernel) gdwsRJ0ca))
set_option maxHeartbeats 4000000 in
set_option maxRecDepth 100000 in
/-- X12_keyLetter -/
theorem r_X12_keyLetter (l : Launch) (dC : Nat → ClassId) (dI : Nat → Nat → Nat) (kn : Nat) (hkn : kn < 71) (sz : Nat) : Met l yX12_keyLetter wsRX12_keyLetter ({ frames := 4, cells := 0, slots := 0, locals := 85 }) (va_Pc [.int (nI kn)] (fun U => U.heap.size = sz ∧ va_P (dC, dI) vwCl [] U.heap ∧ va_K (dC, dI) vwCl [] U ∧ va_D (fun _ => True) [] ∧ StrA (va_A [] sz) U U.heap)) (va_Qi (fun (r : Int32) (u : Unit) => ((r) = kl kn)) (fun (u : Unit) t => True) (va_A [] sz)) 0 0 (va_A [] sz) := by
  refine Met.ofW (cc := cX12_keyLetter) (maxL := 1) (ret := (some .int)) (by decide) rfl ?_
  intro p e s m args below meth c s₁ B hml hv
  obtain ⟨rfl, hsz, hP, hK, hD0, hE⟩ := hv
  have hx := B.exec
  have hb := B.bytes
  have hr := B.returns
  have hts := atoms_spec (ws := wsRX12_keyLetter) B.pre
  have hown : s.vm.findClass RX12 = some m.cls := findClass_of_methodNamed B.named
  have hlocks := B.notSynchronized
  subst hsz
  have hD := hD0.self (sz := s.heap.size)
  generalize hAe : va_A [] s.heap.size = A at hD hE ⊢
  have hA : ∀ q : Nat, s.heap.size ≤ q → A q := fun q h => by rw [← hAe]; exact Or.inr h
  have hS : va_S A s.heap s.heap [] := va_S.rf
  have hl := lv_entry ([.int (nI kn)]) (n := 1) (Nat.le_of_ble_eq_true rfl)
  rw [lg_entry_eq]
  generalize (lg_sl ([.int (nI kn)]) ++ List.replicate (1 - (lg_sl ([.int (nI kn)])).length) Slot.unset).toArray = ls at hl ⊢
  have hl : lv_has ls 1 [(0, .int (nI kn))] := hl
  obtain ⟨qS, hRS, hSS⟩ := hE.1
  refine lv_ldcwS hx hb hown hRS dX12_keyLetter_0 ?_
  refine lv_iload_n hx hb dX12_keyLetter_3 rfl (lv_at hl 0 rfl) ?_
  have hFc := noneFree hS hA
  refine va_calli (va_runV (As := [.int (nI kn)]) (rest := []) ⟨hx, hb, hml, hown, hts⟩ (r_J0_charAt_5068e l dC dI qS kf kn 71 (by first | with_reducible assumption | decide | omega | rfl | assumption) (by first | with_reducible assumption | decide | omega | rfl | assumption) s.heap.size) (cwV 1 hts gwsRX12_keyLetter_0 rfl rfl rfl hd_yJ0_charAt_5068e_RJ0 (by decide +kernel)) ⟨fun a U g mk q => by obtain ⟨q0, q1, qP, qK, qD, qE⟩ := q; exact ⟨q0, q1, qP, va_K.moved (u := U) (U := U.calling g mk a) (Vm.Alike.refl U.vm) qK, qD, qE.same rfl⟩, hSS.recv hS, fun U hU9 hW => ⟨rfl, by rw [hU9], by rw [hU9]; exact nilP, va_K.moved hW.alike (hK.sub (tys' := []) [] rfl), nilD, by rw [hU9]; exact (((hSS : (StrE qS 71 kf) A s s.heap).kept hS.2.1).narrow (fun q h => hFc q h)).warm hW⟩⟩ rfl rfl hl.1 rfl (lv_room (Nat.le_of_ble_eq_true rfl)) dX12_keyLetter_4 (by decide +kernel)) hS (fun q _ h => hFc q h) hFc (fun r4 u t9_ H1 locs ht hvm hw9 hB9 hz1 hk1 hS => ?_)
  have hP := keepAll hP hk1
  clear hB9
  generalize H1 = H at hP hS ⊢
  have hP : va_P (dC, dI) vwCl ([]) H := hP
  have hD := fz_sd hP (hD) rfl
  revert hw9
  refine fz_a2 ?_
  intro f4_0 f4_1
  refine W.widen (k := 0) (n := 0) (by decide +kernel) (by decide +kernel) ?_
  exact W.iret (v := r4) hx hb hr (fun t9_ ht hW => ⟨⟨r4, (), rfl, by (try dsimp only); exact f4_1, trivial⟩, hS.F ht⟩) hS.2.2 dX12_keyLetter_7
theorem dX12_textLetter_0 : decode cX12_textLetter 0 = .ok (.ldc_w 950, 3) := dk_19 (by decide +kernel)
theorem dX12_textLetter_3 : decode cX12_textLetter 3 = .ok (.iload_n 0, 1) := dk_26 (by decide +kernel)
theorem dX12_textLetter_4 : decode cX12_textLetter 4 = .ok (.invokevirtual 473, 3) := dk_182 (by decide +kernel)
theorem dX12_textLetter_7 : decode cX12_textLetter 7 = .ok (.ireturn, 1) := dk_172 (by decide +kernel)
def wsRX12_textLetter : List Cond := .code yX12_textLetter cX12_textLetter 1 (some .int) :: ([] ++ (wsV RX12 473 RJ0 yJ0_charAt_5068e wsRJ0ca))
theorem gwsRX12_textLetter_0 : GoodIn wsRX12_textLetter (wsV RX12 473 RJ0 yJ0_charAt_5068e wsRJ0ca) := goodIn_sub (fun _ h => List.mem_cons_of_mem _ (List.mem_append_right _ h)) (gdV (by decide +kernel) gdwsRJ0ca)
theorem gdwsRX12_textLetter : wsRX12_textLetter.all goodWord = true := gdC rfl (gdA (by decide +kernel : ([] : List Cond).all goodWord = true) (gdV (by decide +kernel) gdwsRJ0ca))
set_option maxHeartbeats 4000000 in
set_option maxRecDepth 100000 in
/-- X12_textLetter -/
theorem r_X12_textLetter (l : Launch) (dC : Nat → ClassId) (dI : Nat → Nat → Nat) (kn : Nat) (hkn : kn < 63) (sz : Nat) : Met l yX12_textLetter wsRX12_textLetter ({ frames := 4, cells := 0, slots := 0, locals := 85 }) (va_Pc [.int (nI kn)] (fun U => U.heap.size = sz ∧ va_P (dC, dI) vwCl [] U.heap ∧ va_K (dC, dI) vwCl [] U ∧ va_D (fun _ => True) [] ∧ StrA (va_A [] sz) U U.heap)) (va_Qi (fun (r : Int32) (u : Unit) => True) (fun (u : Unit) t => True) (va_A [] sz)) 0 0 (va_A [] sz) := by
  refine Met.ofW (cc := cX12_textLetter) (maxL := 1) (ret := (some .int)) (by decide) rfl ?_
  intro p e s m args below meth c s₁ B hml hv
  obtain ⟨rfl, hsz, hP, hK, hD0, hE⟩ := hv
  have hx := B.exec
  have hb := B.bytes
  have hr := B.returns
  have hts := atoms_spec (ws := wsRX12_textLetter) B.pre
  have hown : s.vm.findClass RX12 = some m.cls := findClass_of_methodNamed B.named
  have hlocks := B.notSynchronized
  subst hsz
  have hD := hD0.self (sz := s.heap.size)
  generalize hAe : va_A [] s.heap.size = A at hD hE ⊢
  have hA : ∀ q : Nat, s.heap.size ≤ q → A q := fun q h => by rw [← hAe]; exact Or.inr h
  have hS : va_S A s.heap s.heap [] := va_S.rf
  have hl := lv_entry ([.int (nI kn)]) (n := 1) (Nat.le_of_ble_eq_true rfl)
  rw [lg_entry_eq]
  generalize (lg_sl ([.int (nI kn)]) ++ List.replicate (1 - (lg_sl ([.int (nI kn)])).length) Slot.unset).toArray = ls at hl ⊢
  have hl : lv_has ls 1 [(0, .int (nI kn))] := hl
  obtain ⟨qS, hRS, hSS⟩ := hE.2
  refine lv_ldcwS hx hb hown hRS dX12_textLetter_0 ?_
  refine lv_iload_n hx hb dX12_textLetter_3 rfl (lv_at hl 0 rfl) ?_
  have hFc := noneFree hS hA
  refine va_calli (va_runV (As := [.int (nI kn)]) (rest := []) ⟨hx, hb, hml, hown, hts⟩ (r_J0_charAt_5068e l dC dI qS tf kn 63 (by first | with_reducible assumption | decide | omega | rfl | assumption) (by first | with_reducible assumption | decide | omega | rfl | assumption) s.heap.size) (cwV 1 hts gwsRX12_textLetter_0 rfl rfl rfl hd_yJ0_charAt_5068e_RJ0 (by decide +kernel)) ⟨fun a U g mk q => by obtain ⟨q0, q1, qP, qK, qD, qE⟩ := q; exact ⟨q0, q1, qP, va_K.moved (u := U) (U := U.calling g mk a) (Vm.Alike.refl U.vm) qK, qD, qE.same rfl⟩, hSS.recv hS, fun U hU9 hW => ⟨rfl, by rw [hU9], by rw [hU9]; exact nilP, va_K.moved hW.alike (hK.sub (tys' := []) [] rfl), nilD, by rw [hU9]; exact (((hSS : (StrE qS 63 tf) A s s.heap).kept hS.2.1).narrow (fun q h => hFc q h)).warm hW⟩⟩ rfl rfl hl.1 rfl (lv_room (Nat.le_of_ble_eq_true rfl)) dX12_textLetter_4 (by decide +kernel)) hS (fun q _ h => hFc q h) hFc (fun r4 u t9_ H1 locs ht hvm hw9 hB9 hz1 hk1 hS => ?_)
  have hP := keepAll hP hk1
  clear hB9
  generalize H1 = H at hP hS ⊢
  have hP : va_P (dC, dI) vwCl ([]) H := hP
  have hD := fz_sd hP (hD) rfl
  revert hw9
  refine fz_a2 ?_
  intro f4_0 f4_1
  refine W.widen (k := 0) (n := 0) (by decide +kernel) (by decide +kernel) ?_
  exact W.iret (v := r4) hx hb hr (fun t9_ ht hW => ⟨⟨r4, (), rfl, trivial, trivial⟩, hS.F ht⟩) hS.2.2 dX12_textLetter_7
end

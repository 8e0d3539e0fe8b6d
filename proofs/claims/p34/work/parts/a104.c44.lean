theorem hd_yX12_link_RX12 : yX12_link.cls = RX12 ∧ yX12_link.cls ≠ "java/lang/invoke/MethodHandle" ∧ yX12_link.cls ≠ "java/lang/invoke/VarHandle" ∧ (parseMethodDescriptor yX12_link.desc).map (fun d => d.parameters.length) = some 2 := by decide +kernel
theorem hd_yX12_tourCost_RX12 : yX12_tourCost.cls = RX12 ∧ yX12_tourCost.cls ≠ "java/lang/invoke/MethodHandle" ∧ yX12_tourCost.cls ≠ "java/lang/invoke/VarHandle" ∧ (parseMethodDescriptor yX12_tourCost.desc).map (fun d => d.parameters.length) = some 1 := by decide +kernel
theorem hd_yX12_nextOrder_RX12 : yX12_nextOrder.cls = RX12 ∧ yX12_nextOrder.cls ≠ "java/lang/invoke/MethodHandle" ∧ yX12_nextOrder.cls ≠ "java/lang/invoke/VarHandle" ∧ (parseMethodDescriptor yX12_nextOrder.desc).map (fun d => d.parameters.length) = some 1 := by decide +kernel
theorem hd_yX12_areEnds_RX12 : yX12_areEnds.cls = RX12 ∧ yX12_areEnds.cls ≠ "java/lang/invoke/MethodHandle" ∧ yX12_areEnds.cls ≠ "java/lang/invoke/VarHandle" ∧ (parseMethodDescriptor yX12_areEnds.desc).map (fun d => d.parameters.length) = some 2 := by decide +kernel
theorem hd_yX12_follows_RX12 : yX12_follows.cls = RX12 ∧ yX12_follows.cls ≠ "java/lang/invoke/MethodHandle" ∧ yX12_follows.cls ≠ "java/lang/invoke/VarHandle" ∧ (parseMethodDescriptor yX12_follows.desc).map (fun d => d.parameters.length) = some 1 := by decide +kernel
theorem dX12_tourCost_0 : decode cX12_tourCost 0 = .ok (.iconst 0, 1) := dk_3 (by decide +kernel)
theorem dX12_tourCost_1 : decode cX12_tourCost 1 = .ok (.istore_n 2, 1) := dk_61 (by decide +kernel)
theorem dX12_tourCost_2 : decode cX12_tourCost 2 = .ok (.iconst 0, 1) := dk_3 (by decide +kernel)
theorem dX12_tourCost_3 : decode cX12_tourCost 3 = .ok (.istore_n 3, 1) := dk_62 (by decide +kernel)
theorem dX12_tourCost_4 : decode cX12_tourCost 4 = .ok (.iload_n 3, 1) := dk_29 (by decide +kernel)
theorem dX12_tourCost_5 : decode cX12_tourCost 5 = .ok (.iload_n 1, 1) := dk_27 (by decide +kernel)
theorem dX12_tourCost_6 : decode cX12_tourCost 6 = .ok (.if_icmp .ge 54, 3) := dk_162 (by decide +kernel)
theorem dX12_tourCost_9 : decode cX12_tourCost 9 = .ok (.aload_n 0, 1) := dk_42 (by decide +kernel)
theorem dX12_tourCost_10 : decode cX12_tourCost 10 = .ok (.aload_n 0, 1) := dk_42 (by decide +kernel)
theorem dX12_tourCost_11 : decode cX12_tourCost 11 = .ok (.getfield 339, 3) := dk_180 (by decide +kernel)
theorem dX12_tourCost_14 : decode cX12_tourCost 14 = .ok (.aload_n 0, 1) := dk_42 (by decide +kernel)
theorem dX12_tourCost_15 : decode cX12_tourCost 15 = .ok (.getfield 342, 3) := dk_180 (by decide +kernel)
theorem dX12_tourCost_18 : decode cX12_tourCost 18 = .ok (.iload_n 3, 1) := dk_29 (by decide +kernel)
theorem dX12_tourCost_19 : decode cX12_tourCost 19 = .ok (.iaload, 1) := dk_46 (by decide +kernel)
theorem dX12_tourCost_20 : decode cX12_tourCost 20 = .ok (.iaload, 1) := dk_46 (by decide +kernel)
theorem dX12_tourCost_21 : decode cX12_tourCost 21 = .ok (.aload_n 0, 1) := dk_42 (by decide +kernel)
theorem dX12_tourCost_22 : decode cX12_tourCost 22 = .ok (.getfield 339, 3) := dk_180 (by decide +kernel)
theorem dX12_tourCost_25 : decode cX12_tourCost 25 = .ok (.aload_n 0, 1) := dk_42 (by decide +kernel)
theorem dX12_tourCost_26 : decode cX12_tourCost 26 = .ok (.getfield 342, 3) := dk_180 (by decide +kernel)
theorem dX12_tourCost_29 : decode cX12_tourCost 29 = .ok (.iload_n 3, 1) := dk_29 (by decide +kernel)
theorem dX12_tourCost_30 : decode cX12_tourCost 30 = .ok (.iconst 1, 1) := dk_4 (by decide +kernel)
theorem dX12_tourCost_31 : decode cX12_tourCost 31 = .ok (.iadd, 1) := dk_96 (by decide +kernel)
theorem dX12_tourCost_32 : decode cX12_tourCost 32 = .ok (.iload_n 1, 1) := dk_27 (by decide +kernel)
theorem dX12_tourCost_33 : decode cX12_tourCost 33 = .ok (.irem, 1) := dk_112 (by decide +kernel)
theorem dX12_tourCost_34 : decode cX12_tourCost 34 = .ok (.iaload, 1) := dk_46 (by decide +kernel)
theorem dX12_tourCost_35 : decode cX12_tourCost 35 = .ok (.iaload, 1) := dk_46 (by decide +kernel)
theorem dX12_tourCost_36 : decode cX12_tourCost 36 = .ok (.invokevirtual 1089, 3) := dk_182 (by decide +kernel)
theorem dX12_tourCost_39 : decode cX12_tourCost 39 = .ok (.istore 4, 2) := dk_54 (by decide +kernel)
theorem dX12_tourCost_41 : decode cX12_tourCost 41 = .ok (.iload 4, 2) := dk_21 (by decide +kernel)
theorem dX12_tourCost_43 : decode cX12_tourCost 43 = .ok (.iconst (-1), 1) := dk_2 (by decide +kernel)
theorem dX12_tourCost_44 : decode cX12_tourCost 44 = .ok (.if_icmp .ne 5, 3) := dk_160 (by decide +kernel)
theorem dX12_tourCost_47 : decode cX12_tourCost 47 = .ok (.iconst (-1), 1) := dk_2 (by decide +kernel)
theorem dX12_tourCost_48 : decode cX12_tourCost 48 = .ok (.ireturn, 1) := dk_172 (by decide +kernel)
theorem dX12_tourCost_49 : decode cX12_tourCost 49 = .ok (.iload_n 2, 1) := dk_28 (by decide +kernel)
theorem dX12_tourCost_50 : decode cX12_tourCost 50 = .ok (.iload 4, 2) := dk_21 (by decide +kernel)
theorem dX12_tourCost_52 : decode cX12_tourCost 52 = .ok (.iadd, 1) := dk_96 (by decide +kernel)
theorem dX12_tourCost_53 : decode cX12_tourCost 53 = .ok (.istore_n 2, 1) := dk_61 (by decide +kernel)
theorem dX12_tourCost_54 : decode cX12_tourCost 54 = .ok (.iinc 3 1, 3) := dk_132 (by decide +kernel)
theorem dX12_tourCost_57 : decode cX12_tourCost 57 = .ok (.goto (-53), 3) := dk_167 (by decide +kernel)
theorem dX12_tourCost_60 : decode cX12_tourCost 60 = .ok (.iload_n 2, 1) := dk_28 (by decide +kernel)
theorem dX12_tourCost_61 : decode cX12_tourCost 61 = .ok (.ireturn, 1) := dk_172 (by decide +kernel)
def wsRX12_tourCost : List Cond := .code yX12_tourCost cX12_tourCost 5 (some .int) :: ([.fieldLink RX12 339 "OptimaWorksModel" "member1" "[I", .fieldLink RX12 342 "OptimaWorksModel" "order" "[I"] ++ wsX120 ++ (wsV RX12 1089 RX12 yX12_link wsRX12_link))
theorem iwsRX12_tourCost_in12 : ∀ w ∈ wsX120, w ∈ wsRX12_tourCost := fun _ h => List.mem_cons_of_mem _ (List.mem_append_left _ (List.mem_append_right _ h))
theorem gwsRX12_tourCost_0 : GoodIn wsRX12_tourCost (wsV RX12 1089 RX12 yX12_link wsRX12_link) := goodIn_sub (fun _ h => List.mem_cons_of_mem _ (List.mem_append_right _ h)) (gdV (by decide +kernel) gdwsRX12_link)
theorem gdwsRX12_tourCost : wsRX12_tourCost.all goodWord = true := gdC rfl (gdA (gdA (by decide +kernel : ([.fieldLink RX12 339 "OptimaWorksModel" "member1" "[I", .fieldLink RX12 342 "OptimaWorksModel" "order" "[I"] : List Cond).all goodWord = true) gdwsX120) (gdV (by decide +kernel) gdwsRX12_link))
set_option maxHeartbeats 4000000 in
set_option maxRecDepth 100000 in
/-- tourCost(n) -/
theorem r_X12_tourCost (l : Launch) (dC : Nat → ClassId) (dI : Nat → Nat → Nat) (a : Nat → Nat) (k : Nat → ClassId) (h0 : Nat) (vi : Nat → Int32) (vj : Nat → Int64) (vF : Nat → Nat → Int32) (vG : Nat → Nat → Int64) (bb : Nat → Bool) (Kn : Nat) (ar : Nat) (hK2 : 2 ≤ Kn) (hK8 : Kn ≤ 8) (har : vi 150 = nI ar) (har40 : ar ≤ 40) (hAr : ArO (vF 95) (vF 96) (vF 97) (vF 98) ar) (hBo : Bo (vF 105)) (hMb : ∀ j, j < Kn → vF 104 j = nI (tuK bb j)) (hRg : ∀ i, i < Kn → (vF 105 i).toInt < ((Kn : Nat) : Int)) (sz : Nat) : Met l yX12_tourCost wsRX12_tourCost ({ frames := 1, cells := 0, slots := 0, locals := 24 }) (va_Pc [.ref h0, .int (nI Kn)] (fun U => U.heap.size = sz ∧ va_P (dC, dI) vwCl (WR a k h0 vi vj vF vG) U.heap ∧ va_K (dC, dI) vwCl (tX12 k) U ∧ va_D (fun _ => True) (WR a k h0 vi vj vF vG))) (va_Qi (fun (r : Int32) (u : Unit) => ((r.toInt = -1 ∧ ¬ tuC (fun x y => tuL (((ar : Nat) : Int), vF 95, vF 96, vF 97, vF 98) (tuK bb x) (tuK bb y) ar) Kn (tuOf (vF 105)) Kn < 536870912) ∨ (¬ r.toInt = -1 ∧ r.toInt = tuC (fun x y => tuL (((ar : Nat) : Int), vF 95, vF 96, vF 97, vF 98) (tuK bb x) (tuK bb y) ar) Kn (tuOf (vF 105)) Kn ∧ tuC (fun x y => tuL (((ar : Nat) : Int), vF 95, vF 96, vF 97, vF 98) (tuK bb x) (tuK bb y) ar) Kn (tuOf (vF 105)) Kn < 536870912))) (fun (u : Unit) t => va_P (dC, dI) vwCl (WR a k h0 vi vj vF vG) t.heap ∧ va_D (va_A (WR a k h0 vi vj vF vG) sz) (WR a k h0 vi vj vF vG)) (va_A (WR a k h0 vi vj vF vG) sz)) 0 0 (va_A (WR a k h0 vi vj vF vG) sz) := by
  refine Met.ofW (cc := cX12_tourCost) (maxL := 5) (ret := (some .int)) (by decide) rfl ?_
  intro p e s m args below meth c s₁ B hml hv
  obtain ⟨rfl, hsz, hP, hK, hD0⟩ := hv
  have hx := B.exec
  have hb := B.bytes
  have hr := B.returns
  have hts := atoms_spec (ws := wsRX12_tourCost) B.pre
  have hown : s.vm.findClass RX12 = some m.cls := findClass_of_methodNamed B.named
  have hlocks := B.notSynchronized
  subst hsz
  have hD := hD0.self (sz := s.heap.size)
  generalize hAe : va_A (WR a k h0 vi vj vF vG) s.heap.size = A at hD ⊢
  have hA : ∀ q : Nat, s.heap.size ≤ q → A q := fun q h => by rw [← hAe]; exact Or.inr h
  have hS : va_S A s.heap s.heap [] := va_S.rf
  have hl := lv_entry ([.ref h0, .int (nI Kn)]) (n := 5) (Nat.le_of_ble_eq_true rfl)
  rw [lg_entry_eq]
  generalize (lg_sl ([.ref h0, .int (nI Kn)]) ++ List.replicate (5 - (lg_sl ([.ref h0, .int (nI Kn)])).length) Slot.unset).toArray = ls at hl ⊢
  have hl : lv_has ls 5 [(0, .ref h0), (1, .int (nI Kn))] := hl
  have hPP : tuP (fun x y => tuL (((ar : Nat) : Int), vF 95, vF 96, vF 97, vF 98) (tuK bb x) (tuK bb y) ar) := fun x y => tuL_r (ArO.val hAr) _ _ (Int.le_refl _)
  refine lv_iconst (v := 0) hx hb dX12_tourCost_0 (by decide) ?_
  refine lv_istore_n hx hb dX12_tourCost_1 rfl hl (by decide) rfl (fun ls (hl : lv_has ls _ ([(2, .int 0), (0, .ref h0), (1, .int (nI Kn))])) => ?_)
  refine lv_iconst (v := 0) hx hb dX12_tourCost_2 (by decide) ?_
  refine lv_istore_n hx hb dX12_tourCost_3 rfl hl (by decide) rfl (fun ls (hl : lv_has ls _ ([(3, .int 0), (2, .int 0), (0, .ref h0), (1, .int (nI Kn))])) => ?_)
  have hl : lv_has _ _ ([(0, .ref h0), (1, .int (nI Kn)), (2, .int 0), (3, .int (nI 0))]) := lv_sub hl [2, 3, 1, 0] rfl
  refine (fun (loop : ∀ (n9 : Nat) (k5 : Nat) (su : Int32) (H : Heap) (locs : List Loc) (ls : Array Slot), (k5 ≤ Kn) → (tuSu (fun x y => tuL (((ar : Nat) : Int), vF 95, vF 96, vF 97, vF 98) (tuK bb x) (tuK bb y) ar) Kn (tuOf (vF 105)) k5 su) →  (Kn < k5 + n9) → va_P (dC, dI) vwCl (WR a k h0 vi vj vF vG) H → va_D A (WR a k h0 vi vj vF vG) → va_S A s.heap H locs → lv_has ls 5 [(0, .ref h0), (1, .int (nI Kn)), (2, .int su), (3, .int (nI k5))] → W p l e _ s m _ below meth c H locs 0 0 _ (F0 m 4 ls [])) => loop (Kn + 1) 0 0 _ _ _ (by omega) (⟨rfl, Int.le_refl _, Int.le_refl _⟩) (by omega) hP hD hS hl) ?_
  intro n9
  induction n9 with
  | zero => intro k5 su H locs ls hk5 hsu hf9; exact False.elim (by omega)
  | succ n9 ih4 =>
    intro k5 su H locs ls hk5 hsu hf4 hP hD hS hl
    refine lv_iload_n hx hb dX12_tourCost_4 rfl (lv_at hl 3 rfl) ?_
    refine lv_iload_n hx hb dX12_tourCost_5 rfl (lv_at hl 1 rfl) ?_
    refine lv_icmp_ge (tgt := 60) hx hb dX12_tourCost_6 (by decide) (fun c_6 => ?_) (fun c_6 => ?_)
    · have t_6 : ((k5 : Nat) : Int) ≥ ((Kn : Nat) : Int) := toI_ge c_6 (nI_toInt (by omega)) (nI_toInt (by omega))
      refine lv_iload_n hx hb dX12_tourCost_60 rfl (lv_at hl 2 rfl) ?_
      refine W.widen (k := 0) (n := 0) (by decide +kernel) (by decide +kernel) ?_
      exact W.iret (v := su) hx hb hr (fun t9_ ht hW => ⟨⟨su, (), rfl, by (try dsimp only); (have e9 : k5 = Kn := (by omega)); rw [e9] at hsu; (have h8 := hsu.2.1); (have h7 := hsu.2.2); exact Or.inr ⟨by rw [hsu.1]; omega, hsu.1, by omega⟩, by rw [ht]; exact hP, hD⟩, hS.F ht⟩) hS.2.2 dX12_tourCost_61
    · have t_6 : ¬ ((k5 : Nat) : Int) ≥ ((Kn : Nat) : Int) := toI_nge c_6 (nI_toInt (by omega)) (nI_toInt (by omega))
      have hmod : (k5 + 1) % Kn < Kn := Nat.mod_lt _ (by omega)
      have h91 := hBo k5 (by omega)
      have h92 := hBo ((k5 + 1) % Kn) (by omega)
      have h93 := hRg k5 (by omega)
      have h94 := hRg ((k5 + 1) % Kn) (by omega)
      have hm1 : (vF 104) (((vF 105) k5)).toNatClampNeg = nI (tuK bb (tuOf (vF 105) k5)) := hMb (vF 105 k5).toInt.toNat (by omega)
      have hm2 : (vF 104) (((vF 105) ((k5 + 1) % Kn))).toNatClampNeg = nI (tuK bb (tuOf (vF 105) ((k5 + 1) % Kn))) := hMb (vF 105 ((k5 + 1) % Kn)).toInt.toNat (by omega)
      have hkk1 := tuK_lt bb (tuOf (vF 105) k5)
      have hkk2 := tuK_lt bb (tuOf (vF 105) ((k5 + 1) % Kn))
      refine lv_aload_n hx hb dX12_tourCost_9 rfl (lv_at hl 0 rfl) ?_
      refine lv_aload_n hx hb dX12_tourCost_10 rfl (lv_at hl 0 rfl) ?_
      refine va_get (D := (dC, dI)) (ci := 12) (v := .ref (a 104)) (C := RX12) (T := TX12) (N := 163) (fs := fM (vS a vi vj)) hx hb hts iwsRX12_tourCost_in12 hown hK hP 0 rfl rfl 160 (by decide) (hts (.fieldLink RX12 339 "OptimaWorksModel" "member1" "[I") (by decide +kernel)) (fun _ h9 => h9) rfl dX12_tourCost_11 ?_
      refine lv_aload_n hx hb dX12_tourCost_14 rfl (lv_at hl 0 rfl) ?_
      refine va_get (D := (dC, dI)) (ci := 12) (v := .ref (a 105)) (C := RX12) (T := TX12) (N := 163) (fs := fM (vS a vi vj)) hx hb hts iwsRX12_tourCost_in12 hown hK hP 0 rfl rfl 161 (by decide) (hts (.fieldLink RX12 342 "OptimaWorksModel" "order" "[I") (by decide +kernel)) (fun _ h9 => h9) rfl dX12_tourCost_15 ?_
      refine lv_iload_n hx hb dX12_tourCost_18 rfl (lv_at hl 3 rfl) ?_
      refine va_iald (cA := k 105) (n := 8) (f := (vF 105)) hx hb hK hP 106 105 (WR_get 105 (by decide)) (TR_get 105 (by decide)) (vp_in_nI (show k5 < 8 by omega) (by omega)) dX12_tourCost_19 ?_
      refine lv_topi (fun y1 hy1 => ?_)
      obtain rfl : ((vF 105) k5) = y1 := (hy1.trans (by rw [nI_clamp (by omega)])).symm
      refine va_iald (cA := k 104) (n := 8) (f := (vF 104)) hx hb hK hP 105 104 (WR_get 104 (by decide)) (TR_get 104 (by decide)) (vp_in_iff.mpr (by omega)) dX12_tourCost_20 ?_
      refine lv_topi (fun y2 hy2 => ?_)
      obtain rfl : (nI (tuK bb (tuOf (vF 105) k5))) = y2 := (hy2.trans (hm1)).symm
      refine lv_aload_n hx hb dX12_tourCost_21 rfl (lv_at hl 0 rfl) ?_
      refine va_get (D := (dC, dI)) (ci := 12) (v := .ref (a 104)) (C := RX12) (T := TX12) (N := 163) (fs := fM (vS a vi vj)) hx hb hts iwsRX12_tourCost_in12 hown hK hP 0 rfl rfl 160 (by decide) (hts (.fieldLink RX12 339 "OptimaWorksModel" "member1" "[I") (by decide +kernel)) (fun _ h9 => h9) rfl dX12_tourCost_22 ?_
      refine lv_aload_n hx hb dX12_tourCost_25 rfl (lv_at hl 0 rfl) ?_
      refine va_get (D := (dC, dI)) (ci := 12) (v := .ref (a 105)) (C := RX12) (T := TX12) (N := 163) (fs := fM (vS a vi vj)) hx hb hts iwsRX12_tourCost_in12 hown hK hP 0 rfl rfl 161 (by decide) (hts (.fieldLink RX12 342 "OptimaWorksModel" "order" "[I") (by decide +kernel)) (fun _ h9 => h9) rfl dX12_tourCost_26 ?_
      refine lv_iload_n hx hb dX12_tourCost_29 rfl (lv_at hl 3 rfl) ?_
      refine lv_iconst (v := 1) hx hb dX12_tourCost_30 (by decide) ?_
      refine lv_iadd hx hb dX12_tourCost_31 ?_
      refine lv_topi (fun y3 hy3 => ?_)
      obtain rfl : (nI (k5 + 1)) = y3 := (hy3.trans (nI_add k5 1)).symm
      refine lv_iload_n hx hb dX12_tourCost_32 rfl (lv_at hl 1 rfl) ?_
      refine lv_irem hx hb dX12_tourCost_33 (by exact nI_ne0 (by omega) (by omega)) ?_
      refine lv_topi (fun y4 hy4 => ?_)
      obtain rfl : (nI ((k5 + 1) % Kn)) = y4 := (hy4.trans (pk_rem (a := (k5 + 1)) (d := Kn) (by omega) (by omega) (by omega))).symm
      refine va_iald (cA := k 105) (n := 8) (f := (vF 105)) hx hb hK hP 106 105 (WR_get 105 (by decide)) (TR_get 105 (by decide)) (vp_in_nI (show ((k5 + 1) % Kn) < 8 by omega) (by omega)) dX12_tourCost_34 ?_
      refine lv_topi (fun y5 hy5 => ?_)
      obtain rfl : ((vF 105) ((k5 + 1) % Kn)) = y5 := (hy5.trans (by rw [nI_clamp (by omega)])).symm
      refine va_iald (cA := k 104) (n := 8) (f := (vF 104)) hx hb hK hP 105 104 (WR_get 104 (by decide)) (TR_get 104 (by decide)) (vp_in_iff.mpr (by omega)) dX12_tourCost_35 ?_
      refine lv_topi (fun y6 hy6 => ?_)
      obtain rfl : (nI (tuK bb (tuOf (vF 105) ((k5 + 1) % Kn)))) = y6 := (hy6.trans (hm2)).symm
      have hFc := allFree hD hS hA
      refine va_calli (va_runV (As := [.int (nI (tuK bb (tuOf (vF 105) k5))), .int (nI (tuK bb (tuOf (vF 105) ((k5 + 1) % Kn))))]) (rest := []) ⟨hx, hb, hml, hown, hts⟩ (r_X12_link l dC dI a k h0 vi vj vF vG (nI (tuK bb (tuOf (vF 105) k5))) (nI (tuK bb (tuOf (vF 105) ((k5 + 1) % Kn)))) ar har (by first | assumption | decide | omega | rfl) (by first | assumption | decide | omega | rfl) (by rw [nI_toInt (by omega)]; omega) (by rw [nI_toInt (by omega)]; omega) H.size) (cwV 2 hts gwsRX12_tourCost_0 rfl rfl rfl hd_yX12_link_RX12 (by decide +kernel)) (fz_pre (va_recv hK hP (ci := 12) (q0 := 0) rfl rfl) hP hK hD) rfl rfl hl.1 rfl (lv_room (Nat.le_of_ble_eq_true rfl)) dX12_tourCost_36 (by decide +kernel)) hS (fun q _ h => hFc q h) hFc (fun r36 u t9_ H locs ht hvm hw9 hB9 hz1 hk1 hS => ?_)
      have hP : va_P (dC, dI) vwCl (WR a k h0 vi vj vF vG) H := fz_P ht hB9.1
      have hD : va_D A (WR a k h0 vi vj vF vG) := hB9.2.weaken (fun _ q _ h => hFc q.1 h)
      have f36_0 := hw9
      try dsimp only at f36_0
      have f36_0 : tuE r36 (tuL (((ar : Nat) : Int), (vF 95), (vF 96), (vF 97), (vF 98)) ((nI (tuK bb (tuOf (vF 105) k5)))).toInt.toNat ((nI (tuK bb (tuOf (vF 105) ((k5 + 1) % Kn))))).toInt.toNat ar) := f36_0
      refine lv_istore hx hb dX12_tourCost_39 hl (by decide) rfl (fun ls (hl : lv_has ls _ ([(4, .int r36), (0, .ref h0), (1, .int (nI Kn)), (2, .int su), (3, .int (nI k5))])) => ?_)
      refine lv_iload hx hb dX12_tourCost_41 (lv_at hl 0 rfl) ?_
      refine lv_iconst (v := (-1)) hx hb dX12_tourCost_43 (by decide) ?_
      refine lv_icmp_ne (tgt := 49) hx hb dX12_tourCost_44 (by decide) (fun c_44 => ?_) (fun c_44 => ?_)
      · have t_44 : (r36).toInt ≠ -1 := toI_ne c_44 rfl (by decide)
        refine lv_iload_n hx hb dX12_tourCost_49 rfl (lv_at hl 3 rfl) ?_
        refine lv_iload hx hb dX12_tourCost_50 (lv_at hl 0 rfl) ?_
        refine lv_iadd hx hb dX12_tourCost_52 ?_
        refine lv_istore_n hx hb dX12_tourCost_53 rfl hl (by decide) rfl (fun ls (hl : lv_has ls _ ([(2, .int (su + r36)), (4, .int r36), (0, .ref h0), (1, .int (nI Kn)), (3, .int (nI k5))])) => ?_)
        refine lv_iinc (v := (nI (k5 + 1))) hx hb dX12_tourCost_54 hl (k := 4) rfl (nI_add k5 1) (by decide) rfl (fun ls (hl : lv_has ls _ ([(3, .int (nI (k5 + 1))), (2, .int (su + r36)), (4, .int r36), (0, .ref h0), (1, .int (nI Kn))])) => ?_)
        refine lv_goto (tgt := 4) hx hb dX12_tourCost_57 (by decide) ?_
        have hl : lv_has _ _ ([(0, .ref h0), (1, .int (nI Kn)), (2, .int (su + r36)), (3, .int (nI (k5 + 1)))]) := lv_sub hl [3, 4, 1, 0] rfl
        exact ih4 (k5 + 1) (su + r36) _ _ _ (by omega) (tuSu.step hsu (by omega) (f36_0.at hkk1 hkk2) t_44) (by omega) hP hD hS hl
      · have t_44 : (r36).toInt = -1 := toI_nne c_44 rfl (by decide)
        refine lv_iconst (v := (-1)) hx hb dX12_tourCost_47 (by decide) ?_
        refine W.widen (k := 0) (n := 0) (by decide +kernel) (by decide +kernel) ?_
        exact W.iret (v := (-1)) hx hb hr (fun t9_ ht hW => ⟨⟨(-1), (), rfl, by (try dsimp only); exact Or.inl ⟨by decide, tuSu.far hPP hsu (f36_0.at hkk1 hkk2) t_44 (by omega)⟩, by rw [ht]; exact hP, hD⟩, hS.F ht⟩) hS.2.2 dX12_tourCost_48
theorem dX12_nextOrder_0 : decode cX12_nextOrder 0 = .ok (.iload_n 1, 1) := dk_27 (by decide +kernel)
theorem dX12_nextOrder_1 : decode cX12_nextOrder 1 = .ok (.iconst 2, 1) := dk_5 (by decide +kernel)
theorem dX12_nextOrder_2 : decode cX12_nextOrder 2 = .ok (.isub, 1) := dk_100 (by decide +kernel)
theorem dX12_nextOrder_3 : decode cX12_nextOrder 3 = .ok (.istore_n 2, 1) := dk_61 (by decide +kernel)
theorem dX12_nextOrder_4 : decode cX12_nextOrder 4 = .ok (.iload_n 2, 1) := dk_28 (by decide +kernel)
theorem dX12_nextOrder_5 : decode cX12_nextOrder 5 = .ok (.ifCond .le 26, 3) := dk_158 (by decide +kernel)
theorem dX12_nextOrder_8 : decode cX12_nextOrder 8 = .ok (.aload_n 0, 1) := dk_42 (by decide +kernel)
theorem dX12_nextOrder_9 : decode cX12_nextOrder 9 = .ok (.getfield 342, 3) := dk_180 (by decide +kernel)
theorem dX12_nextOrder_12 : decode cX12_nextOrder 12 = .ok (.iload_n 2, 1) := dk_28 (by decide +kernel)
theorem dX12_nextOrder_13 : decode cX12_nextOrder 13 = .ok (.iaload, 1) := dk_46 (by decide +kernel)
theorem dX12_nextOrder_14 : decode cX12_nextOrder 14 = .ok (.aload_n 0, 1) := dk_42 (by decide +kernel)
theorem dX12_nextOrder_15 : decode cX12_nextOrder 15 = .ok (.getfield 342, 3) := dk_180 (by decide +kernel)
theorem dX12_nextOrder_18 : decode cX12_nextOrder 18 = .ok (.iload_n 2, 1) := dk_28 (by decide +kernel)
theorem dX12_nextOrder_19 : decode cX12_nextOrder 19 = .ok (.iconst 1, 1) := dk_4 (by decide +kernel)
theorem dX12_nextOrder_20 : decode cX12_nextOrder 20 = .ok (.iadd, 1) := dk_96 (by decide +kernel)
theorem dX12_nextOrder_21 : decode cX12_nextOrder 21 = .ok (.iaload, 1) := dk_46 (by decide +kernel)
theorem dX12_nextOrder_22 : decode cX12_nextOrder 22 = .ok (.if_icmp .le 9, 3) := dk_164 (by decide +kernel)
theorem dX12_nextOrder_25 : decode cX12_nextOrder 25 = .ok (.iinc 2 (-1), 3) := dk_132 (by decide +kernel)
theorem dX12_nextOrder_28 : decode cX12_nextOrder 28 = .ok (.goto (-24), 3) := dk_167 (by decide +kernel)
theorem dX12_nextOrder_31 : decode cX12_nextOrder 31 = .ok (.iload_n 2, 1) := dk_28 (by decide +kernel)
theorem dX12_nextOrder_32 : decode cX12_nextOrder 32 = .ok (.ifCond .gt 5, 3) := dk_157 (by decide +kernel)
theorem dX12_nextOrder_35 : decode cX12_nextOrder 35 = .ok (.iconst 0, 1) := dk_3 (by decide +kernel)
theorem dX12_nextOrder_36 : decode cX12_nextOrder 36 = .ok (.ireturn, 1) := dk_172 (by decide +kernel)
theorem dX12_nextOrder_37 : decode cX12_nextOrder 37 = .ok (.iload_n 1, 1) := dk_27 (by decide +kernel)
theorem dX12_nextOrder_38 : decode cX12_nextOrder 38 = .ok (.iconst 1, 1) := dk_4 (by decide +kernel)
theorem dX12_nextOrder_39 : decode cX12_nextOrder 39 = .ok (.isub, 1) := dk_100 (by decide +kernel)
theorem dX12_nextOrder_40 : decode cX12_nextOrder 40 = .ok (.istore_n 3, 1) := dk_62 (by decide +kernel)
theorem dX12_nextOrder_41 : decode cX12_nextOrder 41 = .ok (.aload_n 0, 1) := dk_42 (by decide +kernel)
theorem dX12_nextOrder_42 : decode cX12_nextOrder 42 = .ok (.getfield 342, 3) := dk_180 (by decide +kernel)
theorem dX12_nextOrder_45 : decode cX12_nextOrder 45 = .ok (.iload_n 3, 1) := dk_29 (by decide +kernel)
theorem dX12_nextOrder_46 : decode cX12_nextOrder 46 = .ok (.iaload, 1) := dk_46 (by decide +kernel)
theorem dX12_nextOrder_47 : decode cX12_nextOrder 47 = .ok (.aload_n 0, 1) := dk_42 (by decide +kernel)
theorem dX12_nextOrder_48 : decode cX12_nextOrder 48 = .ok (.getfield 342, 3) := dk_180 (by decide +kernel)
theorem dX12_nextOrder_51 : decode cX12_nextOrder 51 = .ok (.iload_n 2, 1) := dk_28 (by decide +kernel)
theorem dX12_nextOrder_52 : decode cX12_nextOrder 52 = .ok (.iaload, 1) := dk_46 (by decide +kernel)
theorem dX12_nextOrder_53 : decode cX12_nextOrder 53 = .ok (.if_icmp .ge 9, 3) := dk_162 (by decide +kernel)
theorem dX12_nextOrder_56 : decode cX12_nextOrder 56 = .ok (.iinc 3 (-1), 3) := dk_132 (by decide +kernel)
theorem dX12_nextOrder_59 : decode cX12_nextOrder 59 = .ok (.goto (-18), 3) := dk_167 (by decide +kernel)
theorem dX12_nextOrder_62 : decode cX12_nextOrder 62 = .ok (.aload_n 0, 1) := dk_42 (by decide +kernel)
theorem dX12_nextOrder_63 : decode cX12_nextOrder 63 = .ok (.getfield 342, 3) := dk_180 (by decide +kernel)
theorem dX12_nextOrder_66 : decode cX12_nextOrder 66 = .ok (.iload_n 2, 1) := dk_28 (by decide +kernel)
theorem dX12_nextOrder_67 : decode cX12_nextOrder 67 = .ok (.iaload, 1) := dk_46 (by decide +kernel)
theorem dX12_nextOrder_68 : decode cX12_nextOrder 68 = .ok (.istore 4, 2) := dk_54 (by decide +kernel)
theorem dX12_nextOrder_70 : decode cX12_nextOrder 70 = .ok (.aload_n 0, 1) := dk_42 (by decide +kernel)
theorem dX12_nextOrder_71 : decode cX12_nextOrder 71 = .ok (.getfield 342, 3) := dk_180 (by decide +kernel)
theorem dX12_nextOrder_74 : decode cX12_nextOrder 74 = .ok (.iload_n 2, 1) := dk_28 (by decide +kernel)
theorem dX12_nextOrder_75 : decode cX12_nextOrder 75 = .ok (.aload_n 0, 1) := dk_42 (by decide +kernel)
theorem dX12_nextOrder_76 : decode cX12_nextOrder 76 = .ok (.getfield 342, 3) := dk_180 (by decide +kernel)
theorem dX12_nextOrder_79 : decode cX12_nextOrder 79 = .ok (.iload_n 3, 1) := dk_29 (by decide +kernel)
theorem dX12_nextOrder_80 : decode cX12_nextOrder 80 = .ok (.iaload, 1) := dk_46 (by decide +kernel)
theorem dX12_nextOrder_81 : decode cX12_nextOrder 81 = .ok (.iastore, 1) := dk_79 (by decide +kernel)
theorem dX12_nextOrder_82 : decode cX12_nextOrder 82 = .ok (.aload_n 0, 1) := dk_42 (by decide +kernel)
theorem dX12_nextOrder_83 : decode cX12_nextOrder 83 = .ok (.getfield 342, 3) := dk_180 (by decide +kernel)
theorem dX12_nextOrder_86 : decode cX12_nextOrder 86 = .ok (.iload_n 3, 1) := dk_29 (by decide +kernel)
theorem dX12_nextOrder_87 : decode cX12_nextOrder 87 = .ok (.iload 4, 2) := dk_21 (by decide +kernel)
theorem dX12_nextOrder_89 : decode cX12_nextOrder 89 = .ok (.iastore, 1) := dk_79 (by decide +kernel)
theorem dX12_nextOrder_90 : decode cX12_nextOrder 90 = .ok (.iload_n 2, 1) := dk_28 (by decide +kernel)
theorem dX12_nextOrder_91 : decode cX12_nextOrder 91 = .ok (.iconst 1, 1) := dk_4 (by decide +kernel)
theorem dX12_nextOrder_92 : decode cX12_nextOrder 92 = .ok (.iadd, 1) := dk_96 (by decide +kernel)
theorem dX12_nextOrder_93 : decode cX12_nextOrder 93 = .ok (.istore 5, 2) := dk_54 (by decide +kernel)
theorem dX12_nextOrder_95 : decode cX12_nextOrder 95 = .ok (.iload_n 1, 1) := dk_27 (by decide +kernel)
theorem dX12_nextOrder_96 : decode cX12_nextOrder 96 = .ok (.iconst 1, 1) := dk_4 (by decide +kernel)
theorem dX12_nextOrder_97 : decode cX12_nextOrder 97 = .ok (.isub, 1) := dk_100 (by decide +kernel)
theorem dX12_nextOrder_98 : decode cX12_nextOrder 98 = .ok (.istore 6, 2) := dk_54 (by decide +kernel)
theorem dX12_nextOrder_100 : decode cX12_nextOrder 100 = .ok (.iload 5, 2) := dk_21 (by decide +kernel)
theorem dX12_nextOrder_102 : decode cX12_nextOrder 102 = .ok (.iload 6, 2) := dk_21 (by decide +kernel)
theorem dX12_nextOrder_104 : decode cX12_nextOrder 104 = .ok (.if_icmp .ge 44, 3) := dk_162 (by decide +kernel)
theorem dX12_nextOrder_107 : decode cX12_nextOrder 107 = .ok (.aload_n 0, 1) := dk_42 (by decide +kernel)
theorem dX12_nextOrder_108 : decode cX12_nextOrder 108 = .ok (.getfield 342, 3) := dk_180 (by decide +kernel)
theorem dX12_nextOrder_111 : decode cX12_nextOrder 111 = .ok (.iload 5, 2) := dk_21 (by decide +kernel)
theorem dX12_nextOrder_113 : decode cX12_nextOrder 113 = .ok (.iaload, 1) := dk_46 (by decide +kernel)
theorem dX12_nextOrder_114 : decode cX12_nextOrder 114 = .ok (.istore 4, 2) := dk_54 (by decide +kernel)
theorem dX12_nextOrder_116 : decode cX12_nextOrder 116 = .ok (.aload_n 0, 1) := dk_42 (by decide +kernel)
theorem dX12_nextOrder_117 : decode cX12_nextOrder 117 = .ok (.getfield 342, 3) := dk_180 (by decide +kernel)
theorem dX12_nextOrder_120 : decode cX12_nextOrder 120 = .ok (.iload 5, 2) := dk_21 (by decide +kernel)
theorem dX12_nextOrder_122 : decode cX12_nextOrder 122 = .ok (.aload_n 0, 1) := dk_42 (by decide +kernel)
theorem dX12_nextOrder_123 : decode cX12_nextOrder 123 = .ok (.getfield 342, 3) := dk_180 (by decide +kernel)
theorem dX12_nextOrder_126 : decode cX12_nextOrder 126 = .ok (.iload 6, 2) := dk_21 (by decide +kernel)
theorem dX12_nextOrder_128 : decode cX12_nextOrder 128 = .ok (.iaload, 1) := dk_46 (by decide +kernel)
theorem dX12_nextOrder_129 : decode cX12_nextOrder 129 = .ok (.iastore, 1) := dk_79 (by decide +kernel)
theorem dX12_nextOrder_130 : decode cX12_nextOrder 130 = .ok (.aload_n 0, 1) := dk_42 (by decide +kernel)
theorem dX12_nextOrder_131 : decode cX12_nextOrder 131 = .ok (.getfield 342, 3) := dk_180 (by decide +kernel)
theorem dX12_nextOrder_134 : decode cX12_nextOrder 134 = .ok (.iload 6, 2) := dk_21 (by decide +kernel)
theorem dX12_nextOrder_136 : decode cX12_nextOrder 136 = .ok (.iload 4, 2) := dk_21 (by decide +kernel)
theorem dX12_nextOrder_138 : decode cX12_nextOrder 138 = .ok (.iastore, 1) := dk_79 (by decide +kernel)
theorem dX12_nextOrder_139 : decode cX12_nextOrder 139 = .ok (.iinc 5 1, 3) := dk_132 (by decide +kernel)
theorem dX12_nextOrder_142 : decode cX12_nextOrder 142 = .ok (.iinc 6 (-1), 3) := dk_132 (by decide +kernel)
theorem dX12_nextOrder_145 : decode cX12_nextOrder 145 = .ok (.goto (-45), 3) := dk_167 (by decide +kernel)
theorem dX12_nextOrder_148 : decode cX12_nextOrder 148 = .ok (.iconst 1, 1) := dk_4 (by decide +kernel)
theorem dX12_nextOrder_149 : decode cX12_nextOrder 149 = .ok (.ireturn, 1) := dk_172 (by decide +kernel)
def wsRX12_nextOrder : List Cond := .code yX12_nextOrder cX12_nextOrder 7 (some .boolean) :: ([.fieldLink RX12 342 "OptimaWorksModel" "order" "[I"] ++ wsX120)
theorem iwsRX12_nextOrder_in12 : ∀ w ∈ wsX120, w ∈ wsRX12_nextOrder := fun _ h => List.mem_cons_of_mem _ (List.mem_append_right _ h)
theorem gdwsRX12_nextOrder : wsRX12_nextOrder.all goodWord = true := gdC rfl (gdA (by decide +kernel : ([.fieldLink RX12 342 "OptimaWorksModel" "order" "[I"] : List Cond).all goodWord = true) gdwsX120)
set_option maxHeartbeats 4000000 in
set_option maxRecDepth 100000 in
/-- nextOrder(n) -/
theorem r_X12_nextOrder (l : Launch) (dC : Nat → ClassId) (dI : Nat → Nat → Nat) (a : Nat → Nat) (k : Nat → ClassId) (h0 : Nat) (vi : Nat → Int32) (vj : Nat → Int64) (vF : Nat → Nat → Int32) (vG : Nat → Nat → Int64) (Kn : Nat) (hK2 : 2 ≤ Kn) (hK8 : Kn ≤ 8) (hBo : Bo (vF 105)) (hIo : Io Kn (vF 105)) (hRg : ∀ i, i < Kn → (vF 105 i).toInt < ((Kn : Nat) : Int)) (sz : Nat) : Met l yX12_nextOrder wsRX12_nextOrder ({ frames := 0, cells := 0, slots := 0, locals := 0 }) (va_Pc [.ref h0, .int (nI Kn)] (fun U => U.heap.size = sz ∧ va_P (dC, dI) vwCl (WR a k h0 vi vj vF vG) U.heap ∧ va_K (dC, dI) vwCl (tX12 k) U ∧ va_D (fun _ => True) (WR a k h0 vi vj vF vG))) (va_Qi (fun (r : Int32) (u : Nat → Int32) => (r = 0 ∧ (Bo u) ∧ (Io Kn u) ∧ (∀ i, i < Kn → (u i).toInt < ((Kn : Nat) : Int)) ∧ (u = vF 105) ∧ (∀ t, 0 < t → t + 1 < Kn → tuOf (vF 105) (t + 1) < tuOf (vF 105) t)) ∨ (r = 1 ∧ (Bo u) ∧ (Io Kn u) ∧ (∀ i, i < Kn → (u i).toInt < ((Kn : Nat) : Int)) ∧ (∃ k0, k0 < 8 ∧ (∀ i, i < k0 → u i = vF 105 i) ∧ (vF 105 k0).toInt < (u k0).toInt) ∧ (∃ k, 0 < k ∧ tuZ Kn k (tuOf (vF 105)) (tuOf u)) ∧ (u 0 = vF 105 0))) (fun (u : Nat → Int32) t => va_P (dC, dI) vwCl (WR a k h0 vi vj (fT vF 105 u) vG) t.heap ∧ va_D (va_A (WR a k h0 vi vj vF vG) sz) (WR a k h0 vi vj (fT vF 105 u) vG)) (va_A (WR a k h0 vi vj vF vG) sz)) 0 0 (va_A (WR a k h0 vi vj vF vG) sz) := by
  refine Met.ofW (cc := cX12_nextOrder) (maxL := 7) (ret := (some .boolean)) (by decide) rfl ?_
  intro p e s m args below meth c s₁ B hml hv
  obtain ⟨rfl, hsz, hP, hK, hD0⟩ := hv
  have hx := B.exec
  have hb := B.bytes
  have hr := B.returns
  have hts := atoms_spec (ws := wsRX12_nextOrder) B.pre
  have hown : s.vm.findClass RX12 = some m.cls := findClass_of_methodNamed B.named
  have hlocks := B.notSynchronized
  subst hsz
  have hD := hD0.self (sz := s.heap.size)
  generalize hAe : va_A (WR a k h0 vi vj vF vG) s.heap.size = A at hD ⊢
  have hA : ∀ q : Nat, s.heap.size ≤ q → A q := fun q h => by rw [← hAe]; exact Or.inr h
  have hS : va_S A s.heap s.heap [] := va_S.rf
  have hl := lv_entry ([.ref h0, .int (nI Kn)]) (n := 7) (Nat.le_of_ble_eq_true rfl)
  rw [lg_entry_eq]
  generalize (lg_sl ([.ref h0, .int (nI Kn)]) ++ List.replicate (7 - (lg_sl ([.ref h0, .int (nI Kn)])).length) Slot.unset).toArray = ls at hl ⊢
  have hl : lv_has ls 7 [(0, .ref h0), (1, .int (nI Kn))] := hl
  refine lv_iload_n hx hb dX12_nextOrder_0 rfl (lv_at hl 1 rfl) ?_
  refine lv_iconst (v := 2) hx hb dX12_nextOrder_1 (by decide) ?_
  refine lv_isub hx hb dX12_nextOrder_2 ?_
  refine lv_topi (fun y1 hy1 => ?_)
  obtain rfl : (nI (Kn - 2)) = y1 := (hy1.trans (pk_sub (a := Kn) (b := 2) (by omega))).symm
  refine lv_istore_n hx hb dX12_nextOrder_3 rfl hl (by decide) rfl (fun ls (hl : lv_has ls _ ([(2, .int (nI (Kn - 2))), (0, .ref h0), (1, .int (nI Kn))])) => ?_)
  have hl : lv_has _ _ ([(2, .int (nI (Kn - 2))), (0, .ref h0), (1, .int (nI Kn))]) := lv_sub hl [0, 1, 2] rfl
  refine (fun (loop : ∀ (n9 : Nat) (k1 : Nat) (H : Heap) (locs : List Loc) (ls : Array Slot), (k1 + 2 ≤ Kn) → (∀ t, k1 < t → t + 1 < Kn → tuOf (vF 105) (t + 1) < tuOf (vF 105) t) →  (k1 < n9) → va_P (dC, dI) vwCl (WR a k h0 vi vj vF vG) H → va_D A (WR a k h0 vi vj vF vG) → va_S A s.heap H locs → lv_has ls 7 [(2, .int (nI k1)), (0, .ref h0), (1, .int (nI Kn))] → W p l e _ s m _ below meth c H locs 0 0 _ (F0 m 4 ls [])) => loop (9) (Kn - 2) _ _ _ (by omega) (fun t h1 h2 => absurd h2 (by omega)) (by omega) hP hD hS hl) ?_
  intro n9
  induction n9 with
  | zero => intro k1 H locs ls hk1 hds hf9; exact False.elim (by omega)
  | succ n9 ih4 =>
    intro k1 H locs ls hk1 hds hf4 hP hD hS hl
    refine lv_iload_n hx hb dX12_nextOrder_4 rfl (lv_at hl 0 rfl) ?_
    refine lv_if_le (tgt := 31) hx hb dX12_nextOrder_5 (by decide) (fun c_5 => ?_) (fun c_5 => ?_)
    · have t_5 : ((k1 : Nat) : Int) ≤ 0 := toI_le c_5 (nI_toInt (by omega)) (by decide)
      refine lv_iload_n hx hb dX12_nextOrder_31 rfl (lv_at hl 0 rfl) ?_
      refine lv_if_gt (tgt := 37) hx hb dX12_nextOrder_32 (by decide) (fun c9 => False.elim (by have t9 : ((k1 : Nat) : Int) > 0 := toI_gt c9 (nI_toInt (by omega)) (by decide); omega)) (fun c_32 => ?_)
      have t_32 : ¬ ((k1 : Nat) : Int) > 0 := toI_ngt c_32 (nI_toInt (by omega)) (by decide)
      refine lv_iconst (v := 0) hx hb dX12_nextOrder_35 (by decide) ?_
      refine W.widen (k := 0) (n := 0) (by decide +kernel) (by decide +kernel) ?_
      have e9 : fT vF 105 (vF 105) = vF := fT_id _ _ (rfl)
      have hP : va_P (dC, dI) vwCl (WR a k h0 vi vj (fT vF 105 (vF 105)) vG) H := by rw [e9]; exact hP
      have hD : va_D A (WR a k h0 vi vj (fT vF 105 (vF 105)) vG) := by rw [e9]; exact hD
      clear e9
      exact W.zret (v := 0) hx hb hr rfl (fun t9_ ht hW => ⟨⟨0, (vF 105), rfl, by (try dsimp only); exact Or.inl ⟨rfl, hBo, hIo, hRg, rfl, fun t h1 h2 => hds t (by omega) h2⟩, by rw [ht]; exact hP, hD⟩, hS.F ht⟩) hS.2.2 dX12_nextOrder_36
    · have t_5 : ¬ ((k1 : Nat) : Int) ≤ 0 := toI_nle c_5 (nI_toInt (by omega)) (by decide)
      refine lv_aload_n hx hb dX12_nextOrder_8 rfl (lv_at hl 1 rfl) ?_
      refine va_get (D := (dC, dI)) (ci := 12) (v := .ref (a 105)) (C := RX12) (T := TX12) (N := 163) (fs := fM (vS a vi vj)) hx hb hts iwsRX12_nextOrder_in12 hown hK hP 0 rfl rfl 161 (by decide) (hts (.fieldLink RX12 342 "OptimaWorksModel" "order" "[I") (by decide +kernel)) (fun _ h9 => h9) rfl dX12_nextOrder_9 ?_
      refine lv_iload_n hx hb dX12_nextOrder_12 rfl (lv_at hl 0 rfl) ?_
      refine va_iald (cA := k 105) (n := 8) (f := (vF 105)) hx hb hK hP 106 105 (WR_get 105 (by decide)) (TR_get 105 (by decide)) (vp_in_nI (show k1 < 8 by omega) (by omega)) dX12_nextOrder_13 ?_
      refine lv_topi (fun y2 hy2 => ?_)
      obtain rfl : ((vF 105) k1) = y2 := (hy2.trans (by rw [nI_clamp (by omega)])).symm
      refine lv_aload_n hx hb dX12_nextOrder_14 rfl (lv_at hl 1 rfl) ?_
      refine va_get (D := (dC, dI)) (ci := 12) (v := .ref (a 105)) (C := RX12) (T := TX12) (N := 163) (fs := fM (vS a vi vj)) hx hb hts iwsRX12_nextOrder_in12 hown hK hP 0 rfl rfl 161 (by decide) (hts (.fieldLink RX12 342 "OptimaWorksModel" "order" "[I") (by decide +kernel)) (fun _ h9 => h9) rfl dX12_nextOrder_15 ?_
      refine lv_iload_n hx hb dX12_nextOrder_18 rfl (lv_at hl 0 rfl) ?_
      refine lv_iconst (v := 1) hx hb dX12_nextOrder_19 (by decide) ?_
      refine lv_iadd hx hb dX12_nextOrder_20 ?_
      refine lv_topi (fun y3 hy3 => ?_)
      obtain rfl : (nI (k1 + 1)) = y3 := (hy3.trans (nI_add k1 1)).symm
      refine va_iald (cA := k 105) (n := 8) (f := (vF 105)) hx hb hK hP 106 105 (WR_get 105 (by decide)) (TR_get 105 (by decide)) (vp_in_nI (show (k1 + 1) < 8 by omega) (by omega)) dX12_nextOrder_21 ?_
      refine lv_topi (fun y4 hy4 => ?_)
      obtain rfl : ((vF 105) (k1 + 1)) = y4 := (hy4.trans (by rw [nI_clamp (by omega)])).symm
      refine lv_icmp_le (tgt := 31) hx hb dX12_nextOrder_22 (by decide) (fun c_22 => ?_) (fun c_22 => ?_)
      · have t_22 : (((vF 105) k1)).toInt ≤ (((vF 105) (k1 + 1))).toInt := toI_le c_22 rfl rfl
        refine lv_iload_n hx hb dX12_nextOrder_31 rfl (lv_at hl 0 rfl) ?_
        refine lv_if_gt (tgt := 37) hx hb dX12_nextOrder_32 (by decide) (fun c_32 => ?_) (fun c9 => False.elim (by have t9 : ¬ ((k1 : Nat) : Int) > 0 := toI_ngt c9 (nI_toInt (by omega)) (by decide); omega))
        have t_32 : ((k1 : Nat) : Int) > 0 := toI_gt c_32 (nI_toInt (by omega)) (by decide)
        refine lv_iload_n hx hb dX12_nextOrder_37 rfl (lv_at hl 2 rfl) ?_
        refine lv_iconst (v := 1) hx hb dX12_nextOrder_38 (by decide) ?_
        refine lv_isub hx hb dX12_nextOrder_39 ?_
        refine lv_topi (fun y5 hy5 => ?_)
        obtain rfl : (nI (Kn - 1)) = y5 := (hy5.trans (pk_sub (a := Kn) (b := 1) (by omega))).symm
        refine lv_istore_n hx hb dX12_nextOrder_40 rfl hl (by decide) rfl (fun ls (hl : lv_has ls _ ([(3, .int (nI (Kn - 1))), (2, .int (nI k1)), (0, .ref h0), (1, .int (nI Kn))])) => ?_)
        have hl : lv_has _ _ ([(3, .int (nI (Kn - 1))), (2, .int (nI k1)), (0, .ref h0), (1, .int (nI Kn))]) := lv_sub hl [0, 1, 2, 3] rfl
        refine (fun (loop : ∀ (n9 : Nat) (j1 : Nat) (H : Heap) (locs : List Loc) (ls : Array Slot), (k1 + 1 ≤ j1 ∧ j1 < Kn) → (∀ t, j1 < t → t < Kn → (vF 105 t).toInt < (vF 105 k1).toInt) →  (j1 < n9) → va_P (dC, dI) vwCl (WR a k h0 vi vj vF vG) H → va_D A (WR a k h0 vi vj vF vG) → va_S A s.heap H locs → lv_has ls 7 [(3, .int (nI j1)), (2, .int (nI k1)), (0, .ref h0), (1, .int (nI Kn))] → W p l e _ s m _ below meth c H locs 0 0 _ (F0 m 41 ls [])) => loop (9) (Kn - 1) _ _ _ (by omega) (fun t h1 h2 => absurd h2 (by omega)) (by omega) hP hD hS hl) ?_
        intro n9
        induction n9 with
        | zero => intro j1 H locs ls hj1 hjs hf9; exact False.elim (by omega)
        | succ n9 ih41_1 =>
          intro j1 H locs ls hj1 hjs hf41_1 hP hD hS hl
          refine lv_aload_n hx hb dX12_nextOrder_41 rfl (lv_at hl 2 rfl) ?_
          refine va_get (D := (dC, dI)) (ci := 12) (v := .ref (a 105)) (C := RX12) (T := TX12) (N := 163) (fs := fM (vS a vi vj)) hx hb hts iwsRX12_nextOrder_in12 hown hK hP 0 rfl rfl 161 (by decide) (hts (.fieldLink RX12 342 "OptimaWorksModel" "order" "[I") (by decide +kernel)) (fun _ h9 => h9) rfl dX12_nextOrder_42 ?_
          refine lv_iload_n hx hb dX12_nextOrder_45 rfl (lv_at hl 0 rfl) ?_
          refine va_iald (cA := k 105) (n := 8) (f := (vF 105)) hx hb hK hP 106 105 (WR_get 105 (by decide)) (TR_get 105 (by decide)) (vp_in_nI (show j1 < 8 by omega) (by omega)) dX12_nextOrder_46 ?_
          refine lv_topi (fun y6 hy6 => ?_)
          obtain rfl : ((vF 105) j1) = y6 := (hy6.trans (by rw [nI_clamp (by omega)])).symm
          refine lv_aload_n hx hb dX12_nextOrder_47 rfl (lv_at hl 2 rfl) ?_
          refine va_get (D := (dC, dI)) (ci := 12) (v := .ref (a 105)) (C := RX12) (T := TX12) (N := 163) (fs := fM (vS a vi vj)) hx hb hts iwsRX12_nextOrder_in12 hown hK hP 0 rfl rfl 161 (by decide) (hts (.fieldLink RX12 342 "OptimaWorksModel" "order" "[I") (by decide +kernel)) (fun _ h9 => h9) rfl dX12_nextOrder_48 ?_
          refine lv_iload_n hx hb dX12_nextOrder_51 rfl (lv_at hl 1 rfl) ?_
          refine va_iald (cA := k 105) (n := 8) (f := (vF 105)) hx hb hK hP 106 105 (WR_get 105 (by decide)) (TR_get 105 (by decide)) (vp_in_nI (show k1 < 8 by omega) (by omega)) dX12_nextOrder_52 ?_
          refine lv_topi (fun y7 hy7 => ?_)
          obtain rfl : ((vF 105) k1) = y7 := (hy7.trans (by rw [nI_clamp (by omega)])).symm
          refine lv_icmp_ge (tgt := 62) hx hb dX12_nextOrder_53 (by decide) (fun c_53 => ?_) (fun c_53 => ?_)
          · have t_53 : (((vF 105) j1)).toInt ≥ (((vF 105) k1)).toInt := toI_ge c_53 rfl rfl
            refine lv_aload_n hx hb dX12_nextOrder_62 rfl (lv_at hl 2 rfl) ?_
            refine va_get (D := (dC, dI)) (ci := 12) (v := .ref (a 105)) (C := RX12) (T := TX12) (N := 163) (fs := fM (vS a vi vj)) hx hb hts iwsRX12_nextOrder_in12 hown hK hP 0 rfl rfl 161 (by decide) (hts (.fieldLink RX12 342 "OptimaWorksModel" "order" "[I") (by decide +kernel)) (fun _ h9 => h9) rfl dX12_nextOrder_63 ?_
            refine lv_iload_n hx hb dX12_nextOrder_66 rfl (lv_at hl 1 rfl) ?_
            refine va_iald (cA := k 105) (n := 8) (f := (vF 105)) hx hb hK hP 106 105 (WR_get 105 (by decide)) (TR_get 105 (by decide)) (vp_in_nI (show k1 < 8 by omega) (by omega)) dX12_nextOrder_67 ?_
            refine lv_topi (fun y8 hy8 => ?_)
            obtain rfl : ((vF 105) k1) = y8 := (hy8.trans (by rw [nI_clamp (by omega)])).symm
            refine lv_istore hx hb dX12_nextOrder_68 hl (by decide) rfl (fun ls (hl : lv_has ls _ ([(4, .int ((vF 105) k1)), (3, .int (nI j1)), (2, .int (nI k1)), (0, .ref h0), (1, .int (nI Kn))])) => ?_)
            refine lv_aload_n hx hb dX12_nextOrder_70 rfl (lv_at hl 3 rfl) ?_
            refine va_get (D := (dC, dI)) (ci := 12) (v := .ref (a 105)) (C := RX12) (T := TX12) (N := 163) (fs := fM (vS a vi vj)) hx hb hts iwsRX12_nextOrder_in12 hown hK hP 0 rfl rfl 161 (by decide) (hts (.fieldLink RX12 342 "OptimaWorksModel" "order" "[I") (by decide +kernel)) (fun _ h9 => h9) rfl dX12_nextOrder_71 ?_
            refine lv_iload_n hx hb dX12_nextOrder_74 rfl (lv_at hl 2 rfl) ?_
            refine lv_aload_n hx hb dX12_nextOrder_75 rfl (lv_at hl 3 rfl) ?_
            refine va_get (D := (dC, dI)) (ci := 12) (v := .ref (a 105)) (C := RX12) (T := TX12) (N := 163) (fs := fM (vS a vi vj)) hx hb hts iwsRX12_nextOrder_in12 hown hK hP 0 rfl rfl 161 (by decide) (hts (.fieldLink RX12 342 "OptimaWorksModel" "order" "[I") (by decide +kernel)) (fun _ h9 => h9) rfl dX12_nextOrder_76 ?_
            refine lv_iload_n hx hb dX12_nextOrder_79 rfl (lv_at hl 1 rfl) ?_
            refine va_iald (cA := k 105) (n := 8) (f := (vF 105)) hx hb hK hP 106 105 (WR_get 105 (by decide)) (TR_get 105 (by decide)) (vp_in_nI (show j1 < 8 by omega) (by omega)) dX12_nextOrder_80 ?_
            refine lv_topi (fun y9 hy9 => ?_)
            obtain rfl : ((vF 105) j1) = y9 := (hy9.trans (by rw [nI_clamp (by omega)])).symm
            refine va_iast (cA := k 105) (n := 8) (f := (vF 105)) hx hb hK hP hD hS 106 105 (WR_get 105 (by decide)) (TR_get 105 (by decide)) (vp_in_nI (show k1 < 8 by omega) (by omega)) dX12_nextOrder_81 (fun H locs hP hD hS => ?_)
            have hP : va_P (dC, dI) vwCl (WR a k h0 vi vj (fT vF 105 (upd (vF 105) ((nI k1)).toNatClampNeg ((vF 105) j1))) vG) H := by rw [← WR_F 105 (by decide) _ rfl]; exact hP
            have hD : va_D A (WR a k h0 vi vj (fT vF 105 (upd (vF 105) ((nI k1)).toNatClampNeg ((vF 105) j1))) vG) := by rw [← WR_F 105 (by decide) _ rfl]; exact hD
            refine lv_aload_n hx hb dX12_nextOrder_82 rfl (lv_at hl 3 rfl) ?_
            refine va_get (D := (dC, dI)) (ci := 12) (v := .ref (a 105)) (C := RX12) (T := TX12) (N := 163) (fs := fM (vS a vi vj)) hx hb hts iwsRX12_nextOrder_in12 hown hK hP 0 rfl rfl 161 (by decide) (hts (.fieldLink RX12 342 "OptimaWorksModel" "order" "[I") (by decide +kernel)) (fun _ h9 => h9) rfl dX12_nextOrder_83 ?_
            refine lv_iload_n hx hb dX12_nextOrder_86 rfl (lv_at hl 1 rfl) ?_
            refine lv_iload hx hb dX12_nextOrder_87 (lv_at hl 0 rfl) ?_
            refine va_iast (cA := k 105) (n := 8) (f := (upd (vF 105) ((nI k1)).toNatClampNeg ((vF 105) j1))) hx hb hK hP hD hS 106 105 (WR_get 105 (by decide)) (TR_get 105 (by decide)) (vp_in_nI (show j1 < 8 by omega) (by omega)) dX12_nextOrder_89 (fun H locs hP hD hS => ?_)
            have e9 : fT vF 105 (upd (upd (vF 105) ((nI k1)).toNatClampNeg ((vF 105) j1)) ((nI j1)).toNatClampNeg ((vF 105) k1)) = fT (fT vF 105 (upd (vF 105) ((nI k1)).toNatClampNeg ((vF 105) j1))) 105 (upd (upd (vF 105) ((nI k1)).toNatClampNeg ((vF 105) j1)) ((nI j1)).toNatClampNeg ((vF 105) k1)) := (fT_sm _ _ _ _).symm
            have hP : va_P (dC, dI) vwCl (WR a k h0 vi vj (fT vF 105 (upd (upd (vF 105) ((nI k1)).toNatClampNeg ((vF 105) j1)) ((nI j1)).toNatClampNeg ((vF 105) k1))) vG) H := by rw [e9, ← WR_F 105 (by decide) _ rfl]; exact hP
            have hD : va_D A (WR a k h0 vi vj (fT vF 105 (upd (upd (vF 105) ((nI k1)).toNatClampNeg ((vF 105) j1)) ((nI j1)).toNatClampNeg ((vF 105) k1))) vG) := by rw [e9, ← WR_F 105 (by decide) _ rfl]; exact hD
            clear e9
            refine lv_iload_n hx hb dX12_nextOrder_90 rfl (lv_at hl 2 rfl) ?_
            refine lv_iconst (v := 1) hx hb dX12_nextOrder_91 (by decide) ?_
            refine lv_iadd hx hb dX12_nextOrder_92 ?_
            refine lv_topi (fun y10 hy10 => ?_)
            obtain rfl : (nI (k1 + 1)) = y10 := (hy10.trans (nI_add k1 1)).symm
            refine lv_istore hx hb dX12_nextOrder_93 hl (by decide) rfl (fun ls (hl : lv_has ls _ ([(5, .int (nI (k1 + 1))), (4, .int ((vF 105) k1)), (3, .int (nI j1)), (2, .int (nI k1)), (0, .ref h0), (1, .int (nI Kn))])) => ?_)
            refine lv_iload_n hx hb dX12_nextOrder_95 rfl (lv_at hl 5 rfl) ?_
            refine lv_iconst (v := 1) hx hb dX12_nextOrder_96 (by decide) ?_
            refine lv_isub hx hb dX12_nextOrder_97 ?_
            refine lv_topi (fun y11 hy11 => ?_)
            obtain rfl : (nI (Kn - 1)) = y11 := (hy11.trans (pk_sub (a := Kn) (b := 1) (by omega))).symm
            refine lv_istore hx hb dX12_nextOrder_98 hl (by decide) rfl (fun ls (hl : lv_has ls _ ([(6, .int (nI (Kn - 1))), (5, .int (nI (k1 + 1))), (4, .int ((vF 105) k1)), (3, .int (nI j1)), (2, .int (nI k1)), (0, .ref h0), (1, .int (nI Kn))])) => ?_)
            have hl : lv_has _ _ ([(5, .int (nI (k1 + 1))), (6, .int (nI (Kn - 1))), (0, .ref h0), (1, .int (nI Kn))]) := lv_sub hl [1, 0, 5, 6] rfl
            refine (fun (loop : ∀ (n9 : Nat) (a1 : Nat) (b1 : Nat) (g : Nat → Int32) (H : Heap) (locs : List Loc) (ls : Array Slot), (k1 < a1 ∧ a1 ≤ 16 ∧ b1 < Kn) → (Bo g) → (Io Kn g) → (∀ i, i < Kn → (g i).toInt < ((Kn : Nat) : Int)) → (tuRv Kn k1 a1 b1 (tuSw (vF 105) k1 j1) g) → ((∀ i, i < k1 → g i = vF 105 i) ∧ (vF 105 k1).toInt < (g k1).toInt) →  (b1 + 1 < n9 + 1) → va_P (dC, dI) vwCl (WR a k h0 vi vj (fT vF 105 g) vG) H → va_D A (WR a k h0 vi vj (fT vF 105 g) vG) → va_S A s.heap H locs → lv_has ls 7 [(5, .int (nI a1)), (6, .int (nI b1)), (0, .ref h0), (1, .int (nI Kn))] → W p l e _ s m _ below meth c H locs 0 0 _ (F0 m 100 ls [])) => loop (9) (k1 + 1) (Kn - 1) (upd (upd (vF 105) ((nI k1)).toNatClampNeg ((vF 105) j1)) ((nI j1)).toNatClampNeg ((vF 105) k1)) _ _ _ (by omega) (sw_B (by omega) (by omega) hBo) (sw_I (by omega) (by omega) (by omega) hIo) (sw_R (by omega) (by omega) (by omega) hRg) (tuRv.start (by omega) (by omega) hK8) (⟨fun i9 h9 => by rw [sw_at (by omega) (by omega), if_neg (by omega), if_neg (by omega)], by rw [sw_at (by omega) (by omega), if_neg (by omega), if_pos rfl]; exact ne_lt hIo (by omega) (by omega) (by omega) (by omega)⟩) (by omega) hP hD hS hl) ?_
            intro n9
            induction n9 with
            | zero => intro a1 b1 g H locs ls ha1 hB2 hI2 hR2 hrv hp2 hf9; exact False.elim (by omega)
            | succ n9 ih100_2 =>
              intro a1 b1 g H locs ls ha1 hB2 hI2 hR2 hrv hp2 hf100_2 hP hD hS hl
              refine lv_iload hx hb dX12_nextOrder_100 (lv_at hl 0 rfl) ?_
              refine lv_iload hx hb dX12_nextOrder_102 (lv_at hl 1 rfl) ?_
              refine lv_icmp_ge (tgt := 148) hx hb dX12_nextOrder_104 (by decide) (fun c_104 => ?_) (fun c_104 => ?_)
              · have t_104 : ((a1 : Nat) : Int) ≥ ((b1 : Nat) : Int) := toI_ge c_104 (nI_toInt (by omega)) (nI_toInt (by omega))
                refine lv_iconst (v := 1) hx hb dX12_nextOrder_148 (by decide) ?_
                refine W.widen (k := 0) (n := 0) (by decide +kernel) (by decide +kernel) ?_
                exact W.zret (v := 1) hx hb hr rfl (fun t9_ ht hW => ⟨⟨1, g, rfl, by (try dsimp only); exact Or.inr ⟨rfl, hB2, hI2, hR2, ⟨k1, by omega, hp2.1, hp2.2⟩, ⟨k1, by omega, tuZ.of hBo hIo hK8 hj1 hds hjs t_53 hrv t_104⟩, hp2.1 0 (by omega)⟩, by rw [ht]; exact hP, hD⟩, hS.F ht⟩) hS.2.2 dX12_nextOrder_149
              · have t_104 : ¬ ((a1 : Nat) : Int) ≥ ((b1 : Nat) : Int) := toI_nge c_104 (nI_toInt (by omega)) (nI_toInt (by omega))
                refine lv_aload_n hx hb dX12_nextOrder_107 rfl (lv_at hl 2 rfl) ?_
                refine va_get (D := (dC, dI)) (ci := 12) (v := .ref (a 105)) (C := RX12) (T := TX12) (N := 163) (fs := fM (vS a vi vj)) hx hb hts iwsRX12_nextOrder_in12 hown hK hP 0 rfl rfl 161 (by decide) (hts (.fieldLink RX12 342 "OptimaWorksModel" "order" "[I") (by decide +kernel)) (fun _ h9 => h9) rfl dX12_nextOrder_108 ?_
                refine lv_iload hx hb dX12_nextOrder_111 (lv_at hl 0 rfl) ?_
                refine va_iald (cA := k 105) (n := 8) (f := g) hx hb hK hP 106 105 (WR_get 105 (by decide)) (TR_get 105 (by decide)) (vp_in_nI (show a1 < 8 by omega) (by omega)) dX12_nextOrder_113 ?_
                refine lv_topi (fun y12 hy12 => ?_)
                obtain rfl : (g a1) = y12 := (hy12.trans (by rw [nI_clamp (by omega)])).symm
                refine lv_istore hx hb dX12_nextOrder_114 hl (by decide) rfl (fun ls (hl : lv_has ls _ ([(4, .int (g a1)), (5, .int (nI a1)), (6, .int (nI b1)), (0, .ref h0), (1, .int (nI Kn))])) => ?_)
                refine lv_aload_n hx hb dX12_nextOrder_116 rfl (lv_at hl 3 rfl) ?_
                refine va_get (D := (dC, dI)) (ci := 12) (v := .ref (a 105)) (C := RX12) (T := TX12) (N := 163) (fs := fM (vS a vi vj)) hx hb hts iwsRX12_nextOrder_in12 hown hK hP 0 rfl rfl 161 (by decide) (hts (.fieldLink RX12 342 "OptimaWorksModel" "order" "[I") (by decide +kernel)) (fun _ h9 => h9) rfl dX12_nextOrder_117 ?_
                refine lv_iload hx hb dX12_nextOrder_120 (lv_at hl 1 rfl) ?_
                refine lv_aload_n hx hb dX12_nextOrder_122 rfl (lv_at hl 3 rfl) ?_
                refine va_get (D := (dC, dI)) (ci := 12) (v := .ref (a 105)) (C := RX12) (T := TX12) (N := 163) (fs := fM (vS a vi vj)) hx hb hts iwsRX12_nextOrder_in12 hown hK hP 0 rfl rfl 161 (by decide) (hts (.fieldLink RX12 342 "OptimaWorksModel" "order" "[I") (by decide +kernel)) (fun _ h9 => h9) rfl dX12_nextOrder_123 ?_
                refine lv_iload hx hb dX12_nextOrder_126 (lv_at hl 2 rfl) ?_
                refine va_iald (cA := k 105) (n := 8) (f := g) hx hb hK hP 106 105 (WR_get 105 (by decide)) (TR_get 105 (by decide)) (vp_in_nI (show b1 < 8 by omega) (by omega)) dX12_nextOrder_128 ?_
                refine lv_topi (fun y13 hy13 => ?_)
                obtain rfl : (g b1) = y13 := (hy13.trans (by rw [nI_clamp (by omega)])).symm
                refine va_iast (cA := k 105) (n := 8) (f := g) hx hb hK hP hD hS 106 105 (WR_get 105 (by decide)) (TR_get 105 (by decide)) (vp_in_nI (show a1 < 8 by omega) (by omega)) dX12_nextOrder_129 (fun H locs hP hD hS => ?_)
                have e9 : fT vF 105 (upd g ((nI a1)).toNatClampNeg (g b1)) = fT (fT vF 105 g) 105 (upd g ((nI a1)).toNatClampNeg (g b1)) := (fT_sm _ _ _ _).symm
                have hP : va_P (dC, dI) vwCl (WR a k h0 vi vj (fT vF 105 (upd g ((nI a1)).toNatClampNeg (g b1))) vG) H := by rw [e9, ← WR_F 105 (by decide) _ rfl]; exact hP
                have hD : va_D A (WR a k h0 vi vj (fT vF 105 (upd g ((nI a1)).toNatClampNeg (g b1))) vG) := by rw [e9, ← WR_F 105 (by decide) _ rfl]; exact hD
                clear e9
                refine lv_aload_n hx hb dX12_nextOrder_130 rfl (lv_at hl 3 rfl) ?_
                refine va_get (D := (dC, dI)) (ci := 12) (v := .ref (a 105)) (C := RX12) (T := TX12) (N := 163) (fs := fM (vS a vi vj)) hx hb hts iwsRX12_nextOrder_in12 hown hK hP 0 rfl rfl 161 (by decide) (hts (.fieldLink RX12 342 "OptimaWorksModel" "order" "[I") (by decide +kernel)) (fun _ h9 => h9) rfl dX12_nextOrder_131 ?_
                refine lv_iload hx hb dX12_nextOrder_134 (lv_at hl 2 rfl) ?_
                refine lv_iload hx hb dX12_nextOrder_136 (lv_at hl 0 rfl) ?_
                refine va_iast (cA := k 105) (n := 8) (f := (upd g ((nI a1)).toNatClampNeg (g b1))) hx hb hK hP hD hS 106 105 (WR_get 105 (by decide)) (TR_get 105 (by decide)) (vp_in_nI (show b1 < 8 by omega) (by omega)) dX12_nextOrder_138 (fun H locs hP hD hS => ?_)
                have e9 : fT vF 105 (upd (upd g ((nI a1)).toNatClampNeg (g b1)) ((nI b1)).toNatClampNeg (g a1)) = fT (fT vF 105 (upd g ((nI a1)).toNatClampNeg (g b1))) 105 (upd (upd g ((nI a1)).toNatClampNeg (g b1)) ((nI b1)).toNatClampNeg (g a1)) := (fT_sm _ _ _ _).symm
                have hP : va_P (dC, dI) vwCl (WR a k h0 vi vj (fT vF 105 (upd (upd g ((nI a1)).toNatClampNeg (g b1)) ((nI b1)).toNatClampNeg (g a1))) vG) H := by rw [e9, ← WR_F 105 (by decide) _ rfl]; exact hP
                have hD : va_D A (WR a k h0 vi vj (fT vF 105 (upd (upd g ((nI a1)).toNatClampNeg (g b1)) ((nI b1)).toNatClampNeg (g a1))) vG) := by rw [e9, ← WR_F 105 (by decide) _ rfl]; exact hD
                clear e9
                refine lv_iinc (v := (nI (a1 + 1))) hx hb dX12_nextOrder_139 hl (k := 1) rfl (nI_add a1 1) (by decide) rfl (fun ls (hl : lv_has ls _ ([(5, .int (nI (a1 + 1))), (4, .int (g a1)), (6, .int (nI b1)), (0, .ref h0), (1, .int (nI Kn))])) => ?_)
                refine lv_iinc (v := (nI (b1 - 1))) hx hb dX12_nextOrder_142 hl (k := 2) rfl (sb_m1 (by omega)) (by decide) rfl (fun ls (hl : lv_has ls _ ([(6, .int (nI (b1 - 1))), (5, .int (nI (a1 + 1))), (4, .int (g a1)), (0, .ref h0), (1, .int (nI Kn))])) => ?_)
                refine lv_goto (tgt := 100) hx hb dX12_nextOrder_145 (by decide) ?_
                have hl : lv_has _ _ ([(5, .int (nI (a1 + 1))), (6, .int (nI (b1 - 1))), (0, .ref h0), (1, .int (nI Kn))]) := lv_sub hl [1, 0, 3, 4] rfl
                exact ih100_2 (a1 + 1) (b1 - 1) (upd (upd g ((nI a1)).toNatClampNeg (g b1)) ((nI b1)).toNatClampNeg (g a1)) _ _ _ (by omega) (sw_B (by omega) (by omega) hB2) (sw_I (by omega) (by omega) (by omega) hI2) (sw_R (by omega) (by omega) (by omega) hR2) (hrv.step (by omega) t_104 (by omega) hK8) (⟨fun i9 h9 => by rw [sw_at (by omega) (by omega), if_neg (by omega), if_neg (by omega)]; exact hp2.1 i9 h9, by rw [sw_at (by omega) (by omega), if_neg (by omega), if_neg (by omega)]; exact hp2.2⟩) (by omega) hP hD hS hl
          · have t_53 : ¬ (((vF 105) j1)).toInt ≥ (((vF 105) k1)).toInt := toI_nge c_53 rfl rfl
            refine lv_iinc (v := (nI (j1 - 1))) hx hb dX12_nextOrder_56 hl (k := 0) rfl (sb_m1 (by omega)) (by decide) rfl (fun ls (hl : lv_has ls _ ([(3, .int (nI (j1 - 1))), (2, .int (nI k1)), (0, .ref h0), (1, .int (nI Kn))])) => ?_)
            refine lv_goto (tgt := 41) hx hb dX12_nextOrder_59 (by decide) ?_
            have hl : lv_has _ _ ([(3, .int (nI (j1 - 1))), (2, .int (nI k1)), (0, .ref h0), (1, .int (nI Kn))]) := lv_sub hl [0, 1, 2, 3] rfl
            exact ih41_1 (j1 - 1) _ _ _ (by rcases Nat.lt_or_ge (k1 + 1) j1 with h | h; omega; (have e9 : j1 = k1 + 1 := (by omega); subst e9; omega)) (fun t h1 h2 => by rcases Nat.lt_or_ge j1 t with h3 | h3; (exact hjs t h3 h2); (rw [show t = j1 from by omega]; omega)) (by omega) hP hD hS hl
      · have t_22 : ¬ (((vF 105) k1)).toInt ≤ (((vF 105) (k1 + 1))).toInt := toI_nle c_22 rfl rfl
        refine lv_iinc (v := (nI (k1 - 1))) hx hb dX12_nextOrder_25 hl (k := 0) rfl (sb_m1 (by omega)) (by decide) rfl (fun ls (hl : lv_has ls _ ([(2, .int (nI (k1 - 1))), (0, .ref h0), (1, .int (nI Kn))])) => ?_)
        refine lv_goto (tgt := 4) hx hb dX12_nextOrder_28 (by decide) ?_
        have hl : lv_has _ _ ([(2, .int (nI (k1 - 1))), (0, .ref h0), (1, .int (nI Kn))]) := lv_sub hl [0, 1, 2] rfl
        exact ih4 (k1 - 1) _ _ _ (by omega) (tuDs hBo hK8 hds (by omega) t_22) (by omega) hP hD hS hl
theorem dX12_tour_0 : decode cX12_tour 0 = .ok (.aload_n 0, 1) := dk_42 (by decide +kernel)
theorem dX12_tour_1 : decode cX12_tour 1 = .ok (.iload_n 1, 1) := dk_27 (by decide +kernel)
theorem dX12_tour_2 : decode cX12_tour 2 = .ok (.ifCond .lt 27, 3) := dk_155 (by decide +kernel)
theorem dX12_tour_5 : decode cX12_tour 5 = .ok (.iload_n 1, 1) := dk_27 (by decide +kernel)
theorem dX12_tour_6 : decode cX12_tour 6 = .ok (.sipush 4096, 3) := dk_17 (by decide +kernel)
theorem dX12_tour_9 : decode cX12_tour 9 = .ok (.if_icmp .ge 20, 3) := dk_162 (by decide +kernel)
theorem dX12_tour_12 : decode cX12_tour 12 = .ok (.iload_n 1, 1) := dk_27 (by decide +kernel)
theorem dX12_tour_13 : decode cX12_tour 13 = .ok (.invokestatic 1040, 3) := dk_184 (by decide +kernel)
theorem dX12_tour_16 : decode cX12_tour 16 = .ok (.iconst 2, 1) := dk_5 (by decide +kernel)
theorem dX12_tour_17 : decode cX12_tour 17 = .ok (.if_icmp .lt 12, 3) := dk_161 (by decide +kernel)
theorem dX12_tour_20 : decode cX12_tour 20 = .ok (.iload_n 1, 1) := dk_27 (by decide +kernel)
theorem dX12_tour_21 : decode cX12_tour 21 = .ok (.invokestatic 1040, 3) := dk_184 (by decide +kernel)
theorem dX12_tour_24 : decode cX12_tour 24 = .ok (.bipush 8, 2) := dk_16 (by decide +kernel)
theorem dX12_tour_26 : decode cX12_tour 26 = .ok (.if_icmp .le 7, 3) := dk_164 (by decide +kernel)
theorem dX12_tour_29 : decode cX12_tour 29 = .ok (.iconst 1, 1) := dk_4 (by decide +kernel)
theorem dX12_tour_30 : decode cX12_tour 30 = .ok (.goto 4, 3) := dk_167 (by decide +kernel)
theorem dX12_tour_33 : decode cX12_tour 33 = .ok (.iconst 0, 1) := dk_3 (by decide +kernel)
theorem dX12_tour_34 : decode cX12_tour 34 = .ok (.putfield 348, 3) := dk_181 (by decide +kernel)
theorem dX12_tour_37 : decode cX12_tour 37 = .ok (.aload_n 0, 1) := dk_42 (by decide +kernel)
theorem dX12_tour_38 : decode cX12_tour 38 = .ok (.getfield 348, 3) := dk_180 (by decide +kernel)
theorem dX12_tour_41 : decode cX12_tour 41 = .ok (.ifCond .le 5, 3) := dk_158 (by decide +kernel)
theorem dX12_tour_44 : decode cX12_tour 44 = .ok (.iconst 0, 1) := dk_3 (by decide +kernel)
theorem dX12_tour_45 : decode cX12_tour 45 = .ok (.ireturn, 1) := dk_172 (by decide +kernel)
theorem dX12_tour_46 : decode cX12_tour 46 = .ok (.iconst 0, 1) := dk_3 (by decide +kernel)
theorem dX12_tour_47 : decode cX12_tour 47 = .ok (.istore_n 3, 1) := dk_62 (by decide +kernel)
theorem dX12_tour_48 : decode cX12_tour 48 = .ok (.iconst 0, 1) := dk_3 (by decide +kernel)
theorem dX12_tour_49 : decode cX12_tour 49 = .ok (.istore 4, 2) := dk_54 (by decide +kernel)
theorem dX12_tour_51 : decode cX12_tour 51 = .ok (.iload 4, 2) := dk_21 (by decide +kernel)
theorem dX12_tour_53 : decode cX12_tour 53 = .ok (.bipush 12, 2) := dk_16 (by decide +kernel)
theorem dX12_tour_55 : decode cX12_tour 55 = .ok (.if_icmp .ge 39, 3) := dk_162 (by decide +kernel)
theorem dX12_tour_58 : decode cX12_tour 58 = .ok (.iload_n 1, 1) := dk_27 (by decide +kernel)
theorem dX12_tour_59 : decode cX12_tour 59 = .ok (.iload 4, 2) := dk_21 (by decide +kernel)
theorem dX12_tour_61 : decode cX12_tour 61 = .ok (.ishr, 1) := dk_122 (by decide +kernel)
theorem dX12_tour_62 : decode cX12_tour 62 = .ok (.iconst 1, 1) := dk_4 (by decide +kernel)
theorem dX12_tour_63 : decode cX12_tour 63 = .ok (.iand, 1) := dk_126 (by decide +kernel)
theorem dX12_tour_64 : decode cX12_tour 64 = .ok (.ifCond .ne 6, 3) := dk_154 (by decide +kernel)
theorem dX12_tour_67 : decode cX12_tour 67 = .ok (.goto 21, 3) := dk_167 (by decide +kernel)
theorem dX12_tour_70 : decode cX12_tour 70 = .ok (.aload_n 0, 1) := dk_42 (by decide +kernel)
theorem dX12_tour_71 : decode cX12_tour 71 = .ok (.getfield 339, 3) := dk_180 (by decide +kernel)
theorem dX12_tour_74 : decode cX12_tour 74 = .ok (.iload_n 3, 1) := dk_29 (by decide +kernel)
theorem dX12_tour_75 : decode cX12_tour 75 = .ok (.iload 4, 2) := dk_21 (by decide +kernel)
theorem dX12_tour_77 : decode cX12_tour 77 = .ok (.iastore, 1) := dk_79 (by decide +kernel)
theorem dX12_tour_78 : decode cX12_tour 78 = .ok (.aload_n 0, 1) := dk_42 (by decide +kernel)
theorem dX12_tour_79 : decode cX12_tour 79 = .ok (.getfield 342, 3) := dk_180 (by decide +kernel)
theorem dX12_tour_82 : decode cX12_tour 82 = .ok (.iload_n 3, 1) := dk_29 (by decide +kernel)
theorem dX12_tour_83 : decode cX12_tour 83 = .ok (.iload_n 3, 1) := dk_29 (by decide +kernel)
theorem dX12_tour_84 : decode cX12_tour 84 = .ok (.iastore, 1) := dk_79 (by decide +kernel)
theorem dX12_tour_85 : decode cX12_tour 85 = .ok (.iinc 3 1, 3) := dk_132 (by decide +kernel)
theorem dX12_tour_88 : decode cX12_tour 88 = .ok (.iinc 4 1, 3) := dk_132 (by decide +kernel)
theorem dX12_tour_91 : decode cX12_tour 91 = .ok (.goto (-40), 3) := dk_167 (by decide +kernel)
theorem dX12_tour_94 : decode cX12_tour 94 = .ok (.iconst (-1), 1) := dk_2 (by decide +kernel)
theorem dX12_tour_95 : decode cX12_tour 95 = .ok (.istore 4, 2) := dk_54 (by decide +kernel)
theorem dX12_tour_97 : decode cX12_tour 97 = .ok (.iconst 1, 1) := dk_4 (by decide +kernel)
theorem dX12_tour_98 : decode cX12_tour 98 = .ok (.istore 5, 2) := dk_54 (by decide +kernel)
theorem dX12_tour_100 : decode cX12_tour 100 = .ok (.iload 5, 2) := dk_21 (by decide +kernel)
theorem dX12_tour_102 : decode cX12_tour 102 = .ok (.ifCond .eq 77, 3) := dk_153 (by decide +kernel)
theorem dX12_tour_105 : decode cX12_tour 105 = .ok (.aload_n 0, 1) := dk_42 (by decide +kernel)
theorem dX12_tour_106 : decode cX12_tour 106 = .ok (.iload_n 3, 1) := dk_29 (by decide +kernel)
theorem dX12_tour_107 : decode cX12_tour 107 = .ok (.invokevirtual 1092, 3) := dk_182 (by decide +kernel)
theorem dX12_tour_110 : decode cX12_tour 110 = .ok (.istore 6, 2) := dk_54 (by decide +kernel)
theorem dX12_tour_112 : decode cX12_tour 112 = .ok (.iload 6, 2) := dk_21 (by decide +kernel)
theorem dX12_tour_114 : decode cX12_tour 114 = .ok (.iconst (-1), 1) := dk_2 (by decide +kernel)
theorem dX12_tour_115 : decode cX12_tour 115 = .ok (.if_icmp .eq 54, 3) := dk_159 (by decide +kernel)
theorem dX12_tour_118 : decode cX12_tour 118 = .ok (.iload 4, 2) := dk_21 (by decide +kernel)
theorem dX12_tour_120 : decode cX12_tour 120 = .ok (.iconst (-1), 1) := dk_2 (by decide +kernel)
theorem dX12_tour_121 : decode cX12_tour 121 = .ok (.if_icmp .eq 10, 3) := dk_159 (by decide +kernel)
theorem dX12_tour_124 : decode cX12_tour 124 = .ok (.iload 6, 2) := dk_21 (by decide +kernel)
theorem dX12_tour_126 : decode cX12_tour 126 = .ok (.iload 4, 2) := dk_21 (by decide +kernel)
theorem dX12_tour_128 : decode cX12_tour 128 = .ok (.if_icmp .ge 41, 3) := dk_162 (by decide +kernel)
theorem dX12_tour_131 : decode cX12_tour 131 = .ok (.iload 6, 2) := dk_21 (by decide +kernel)
theorem dX12_tour_133 : decode cX12_tour 133 = .ok (.istore 4, 2) := dk_54 (by decide +kernel)
theorem dX12_tour_135 : decode cX12_tour 135 = .ok (.iconst 0, 1) := dk_3 (by decide +kernel)
theorem dX12_tour_136 : decode cX12_tour 136 = .ok (.istore 7, 2) := dk_54 (by decide +kernel)
theorem dX12_tour_138 : decode cX12_tour 138 = .ok (.iload 7, 2) := dk_21 (by decide +kernel)
theorem dX12_tour_140 : decode cX12_tour 140 = .ok (.iload_n 3, 1) := dk_29 (by decide +kernel)
theorem dX12_tour_141 : decode cX12_tour 141 = .ok (.if_icmp .ge 28, 3) := dk_162 (by decide +kernel)
theorem dX12_tour_144 : decode cX12_tour 144 = .ok (.aload_n 0, 1) := dk_42 (by decide +kernel)
theorem dX12_tour_145 : decode cX12_tour 145 = .ok (.getfield 345, 3) := dk_180 (by decide +kernel)
theorem dX12_tour_148 : decode cX12_tour 148 = .ok (.iload 7, 2) := dk_21 (by decide +kernel)
theorem dX12_tour_150 : decode cX12_tour 150 = .ok (.aload_n 0, 1) := dk_42 (by decide +kernel)
theorem dX12_tour_151 : decode cX12_tour 151 = .ok (.getfield 339, 3) := dk_180 (by decide +kernel)
theorem dX12_tour_154 : decode cX12_tour 154 = .ok (.aload_n 0, 1) := dk_42 (by decide +kernel)
theorem dX12_tour_155 : decode cX12_tour 155 = .ok (.getfield 342, 3) := dk_180 (by decide +kernel)
theorem dX12_tour_158 : decode cX12_tour 158 = .ok (.iload 7, 2) := dk_21 (by decide +kernel)
theorem dX12_tour_160 : decode cX12_tour 160 = .ok (.iaload, 1) := dk_46 (by decide +kernel)
theorem dX12_tour_161 : decode cX12_tour 161 = .ok (.iaload, 1) := dk_46 (by decide +kernel)
theorem dX12_tour_162 : decode cX12_tour 162 = .ok (.iastore, 1) := dk_79 (by decide +kernel)
theorem dX12_tour_163 : decode cX12_tour 163 = .ok (.iinc 7 1, 3) := dk_132 (by decide +kernel)
theorem dX12_tour_166 : decode cX12_tour 166 = .ok (.goto (-28), 3) := dk_167 (by decide +kernel)
theorem dX12_tour_169 : decode cX12_tour 169 = .ok (.aload_n 0, 1) := dk_42 (by decide +kernel)
theorem dX12_tour_170 : decode cX12_tour 170 = .ok (.iload_n 3, 1) := dk_29 (by decide +kernel)
theorem dX12_tour_171 : decode cX12_tour 171 = .ok (.invokevirtual 1095, 3) := dk_182 (by decide +kernel)
theorem dX12_tour_174 : decode cX12_tour 174 = .ok (.istore 5, 2) := dk_54 (by decide +kernel)
theorem dX12_tour_176 : decode cX12_tour 176 = .ok (.goto (-76), 3) := dk_167 (by decide +kernel)
theorem dX12_tour_179 : decode cX12_tour 179 = .ok (.iload_n 2, 1) := dk_28 (by decide +kernel)
theorem dX12_tour_180 : decode cX12_tour 180 = .ok (.bipush (-2), 2) := dk_16 (by decide +kernel)
theorem dX12_tour_182 : decode cX12_tour 182 = .ok (.if_icmp .ne 6, 3) := dk_160 (by decide +kernel)
theorem dX12_tour_185 : decode cX12_tour 185 = .ok (.iload 4, 2) := dk_21 (by decide +kernel)
theorem dX12_tour_187 : decode cX12_tour 187 = .ok (.ireturn, 1) := dk_172 (by decide +kernel)
theorem dX12_tour_188 : decode cX12_tour 188 = .ok (.iload 4, 2) := dk_21 (by decide +kernel)
theorem dX12_tour_190 : decode cX12_tour 190 = .ok (.iconst (-1), 1) := dk_2 (by decide +kernel)
theorem dX12_tour_191 : decode cX12_tour 191 = .ok (.if_icmp .eq 12, 3) := dk_159 (by decide +kernel)
theorem dX12_tour_194 : decode cX12_tour 194 = .ok (.iload_n 2, 1) := dk_28 (by decide +kernel)
theorem dX12_tour_195 : decode cX12_tour 195 = .ok (.ifCond .lt 8, 3) := dk_155 (by decide +kernel)
theorem dX12_tour_198 : decode cX12_tour 198 = .ok (.iload_n 2, 1) := dk_28 (by decide +kernel)
theorem dX12_tour_199 : decode cX12_tour 199 = .ok (.iload_n 3, 1) := dk_29 (by decide +kernel)
theorem dX12_tour_200 : decode cX12_tour 200 = .ok (.if_icmp .lt 7, 3) := dk_161 (by decide +kernel)
theorem dX12_tour_203 : decode cX12_tour 203 = .ok (.iconst (-1), 1) := dk_2 (by decide +kernel)
theorem dX12_tour_204 : decode cX12_tour 204 = .ok (.goto 9, 3) := dk_167 (by decide +kernel)
theorem dX12_tour_207 : decode cX12_tour 207 = .ok (.aload_n 0, 1) := dk_42 (by decide +kernel)
theorem dX12_tour_208 : decode cX12_tour 208 = .ok (.getfield 345, 3) := dk_180 (by decide +kernel)
theorem dX12_tour_211 : decode cX12_tour 211 = .ok (.iload_n 2, 1) := dk_28 (by decide +kernel)
theorem dX12_tour_212 : decode cX12_tour 212 = .ok (.iaload, 1) := dk_46 (by decide +kernel)
theorem dX12_tour_213 : decode cX12_tour 213 = .ok (.ireturn, 1) := dk_172 (by decide +kernel)
def wsRX12_tour : List Cond := .code yX12_tour cX12_tour 8 (some .int) :: ([.fieldLink RX12 348 "OptimaWorksModel" "thrown" "I", .fieldLink RX12 345 "OptimaWorksModel" "tourBest" "[I", .fieldLink RX12 339 "OptimaWorksModel" "member1" "[I", .fieldLink RX12 342 "OptimaWorksModel" "order" "[I"] ++ wsX120 ++ (va_wsS RX12 1040 yX12_ones wsRonesa) ++ (wsV RX12 1092 RX12 yX12_tourCost wsRX12_tourCost) ++ (wsV RX12 1095 RX12 yX12_nextOrder wsRX12_nextOrder))
theorem iwsRX12_tour_in12 : ∀ w ∈ wsX120, w ∈ wsRX12_tour := fun _ h => List.mem_cons_of_mem _ (List.mem_append_left _ (List.mem_append_left _ (List.mem_append_left _ (List.mem_append_right _ h))))
theorem gwsRX12_tour_0 : GoodIn wsRX12_tour (va_wsS RX12 1040 yX12_ones wsRonesa) := goodIn_sub (fun _ h => List.mem_cons_of_mem _ (List.mem_append_left _ (List.mem_append_left _ (List.mem_append_right _ h)))) (gdS (by decide +kernel) gdwsRonesa)
theorem gwsRX12_tour_1 : GoodIn wsRX12_tour (wsV RX12 1092 RX12 yX12_tourCost wsRX12_tourCost) := goodIn_sub (fun _ h => List.mem_cons_of_mem _ (List.mem_append_left _ (List.mem_append_right _ h))) (gdV (by decide +kernel) gdwsRX12_tourCost)
theorem gwsRX12_tour_2 : GoodIn wsRX12_tour (wsV RX12 1095 RX12 yX12_nextOrder wsRX12_nextOrder) := goodIn_sub (fun _ h => List.mem_cons_of_mem _ (List.mem_append_right _ h)) (gdV (by decide +kernel) gdwsRX12_nextOrder)
theorem gdwsRX12_tour : wsRX12_tour.all goodWord = true := gdC rfl (gdA (gdA (gdA (gdA (by decide +kernel : ([.fieldLink RX12 348 "OptimaWorksModel" "thrown" "I", .fieldLink RX12 345 "OptimaWorksModel" "tourBest" "[I", .fieldLink RX12 339 "OptimaWorksModel" "member1" "[I", .fieldLink RX12 342 "OptimaWorksModel" "order" "[I"] : List Cond).all goodWord = true) gdwsX120) (gdS (by decide +kernel) gdwsRonesa)) (gdV (by decide +kernel) gdwsRX12_tourCost)) (gdV (by decide +kernel) gdwsRX12_nextOrder))
set_option maxHeartbeats 4000000 in
set_option maxRecDepth 100000 in
/-- tour(set, i) -/
theorem r_X12_tour (l : Launch) (dC : Nat → ClassId) (dI : Nat → Nat → Nat) (a : Nat → Nat) (k : Nat → ClassId) (h0 : Nat) (vi : Nat → Int32) (vj : Nat → Int64) (vF : Nat → Nat → Int32) (vG : Nat → Nat → Int64) (sI : Int32) (iI : Int32) (ar : Nat) (har : vi 150 = nI ar) (har40 : ar ≤ 40) (hAr : ArO (vF 95) (vF 96) (vF 97) (vF 98) ar) (hB9o : Bo (vF 105)) (sz : Nat) : Met l yX12_tour wsRX12_tour ({ frames := 2, cells := 0, slots := 0, locals := 48 }) (va_Pc [.ref h0, .int sI, .int iI] (fun U => U.heap.size = sz ∧ va_P (dC, dI) vwCl (WR a k h0 vi vj vF vG) U.heap ∧ va_K (dC, dI) vwCl (tX12 k) U ∧ va_D (fun _ => True) (WR a k h0 vi vj vF vG))) (va_Qi (fun (r : Int32) (u : (Int32) × (Nat → Int32) × (Nat → Int32) × (Nat → Int32)) => ((Bo (u.2.2.1)) ∧ ((u.1) = 1) ∧ (¬ (0 ≤ (sI).toInt ∧ (sI).toInt ≤ 4095 ∧ 2 ≤ cntB (bI sI) 12 ∧ cntB (bI sI) 12 ≤ 8))) ∨ ((Bo (u.2.2.1)) ∧ ((u.1) = 0) ∧ ((0 ≤ (sI).toInt ∧ (sI).toInt ≤ 4095 ∧ 2 ≤ cntB (bI sI) 12 ∧ cntB (bI sI) 12 ≤ 8)) ∧ (tuA (((ar : Nat) : Int), vF 95, vF 96, vF 97, vF 98) (bI sI) (iI).toInt r.toInt))) (fun (u : (Int32) × (Nat → Int32) × (Nat → Int32) × (Nat → Int32)) t => va_P (dC, dI) vwCl (WR a k h0 (fT vi 0 (u.1)) vj (fT (fT (fT vF 104 (u.2.1)) 105 (u.2.2.1)) 106 (u.2.2.2)) vG) t.heap ∧ va_D (va_A (WR a k h0 vi vj vF vG) sz) (WR a k h0 (fT vi 0 (u.1)) vj (fT (fT (fT vF 104 (u.2.1)) 105 (u.2.2.1)) 106 (u.2.2.2)) vG)) (va_A (WR a k h0 vi vj vF vG) sz)) 0 0 (va_A (WR a k h0 vi vj vF vG) sz) := by
  refine Met.ofW (cc := cX12_tour) (maxL := 8) (ret := (some .int)) (by decide) rfl ?_
  intro p e s m args below meth c s₁ B hml hv
  obtain ⟨rfl, hsz, hP, hK, hD0⟩ := hv
  have hx := B.exec
  have hb := B.bytes
  have hr := B.returns
  have hts := atoms_spec (ws := wsRX12_tour) B.pre
  have hown : s.vm.findClass RX12 = some m.cls := findClass_of_methodNamed B.named
  have hlocks := B.notSynchronized
  subst hsz
  have hD := hD0.self (sz := s.heap.size)
  generalize hAe : va_A (WR a k h0 vi vj vF vG) s.heap.size = A at hD ⊢
  have hA : ∀ q : Nat, s.heap.size ≤ q → A q := fun q h => by rw [← hAe]; exact Or.inr h
  have hS : va_S A s.heap s.heap [] := va_S.rf
  have hl := lv_entry ([.ref h0, .int sI, .int iI]) (n := 8) (Nat.le_of_ble_eq_true rfl)
  rw [lg_entry_eq]
  generalize (lg_sl ([.ref h0, .int sI, .int iI]) ++ List.replicate (8 - (lg_sl ([.ref h0, .int sI, .int iI])).length) Slot.unset).toArray = ls at hl ⊢
  have hl : lv_has ls 8 [(0, .ref h0), (1, .int sI), (2, .int iI)] := hl
  refine lv_aload_n hx hb dX12_tour_0 rfl (lv_at hl 0 rfl) ?_
  refine lv_iload_n hx hb dX12_tour_1 rfl (lv_at hl 1 rfl) ?_
  refine lv_if_lt (tgt := 29) hx hb dX12_tour_2 (by decide) (fun c_2 => ?_) (fun c_2 => ?_)
  · have t_2 : (sI).toInt < 0 := toI_lt c_2 rfl (by decide)
    refine lv_iconst (v := 1) hx hb dX12_tour_29 (by decide) ?_
    refine lv_goto (tgt := 34) hx hb dX12_tour_30 (by decide) ?_
    refine va_put (D := (dC, dI)) (ci := 12) (v := .int 1) (ty := .int) (C := RX12) (T := TX12) (N := 163) (fs := fM (vS a vi vj)) hx hb hts iwsRX12_tour_in12 tyX12 tyX12_ok nmX12 hown hK hP hD hS 0 rfl rfl 0 (by decide) (hts (.fieldLink RX12 348 "OptimaWorksModel" "thrown" "I") (by decide +kernel)) (fun _ h9 => h9) rfl (by decide +kernel) rfl rfl (Nat.le_of_ble_eq_true rfl) dX12_tour_34 (fun H locs hP hD hS => ?_)
    have hP : va_P (dC, dI) vwCl (WR a k h0 (fT vi 0 1) vj vF vG) H := by rw [← WR_i 0 _ rfl]; exact hP
    have hD : va_D A (WR a k h0 (fT vi 0 1) vj vF vG) := by rw [← WR_i 0 _ rfl]; exact hD
    refine lv_aload_n hx hb dX12_tour_37 rfl (lv_at hl 0 rfl) ?_
    refine va_get (D := (dC, dI)) (ci := 12) (v := .int 1) (C := RX12) (T := TX12) (N := 163) (fs := fM (vS a (fT vi 0 1) vj)) hx hb hts iwsRX12_tour_in12 hown hK hP 0 rfl rfl 0 (by decide) (hts (.fieldLink RX12 348 "OptimaWorksModel" "thrown" "I") (by decide +kernel)) (fun _ h9 => h9) rfl dX12_tour_38 ?_
    refine lv_if_le (tgt := 46) hx hb dX12_tour_41 (by decide) (fun c9 => absurd c9 (by decide)) (fun _ => ?_)
    refine lv_iconst (v := 0) hx hb dX12_tour_44 (by decide) ?_
    refine W.widen (k := 0) (n := 0) (by decide +kernel) (by decide +kernel) ?_
    have e9 : fT (fT (fT vF 104 (vF 104)) 105 (vF 105)) 106 (vF 106) = vF := (fT_id _ _ ((fT_ne _ _ (Nat.ne_of_beq_eq_false rfl)).trans (fT_ne _ _ (Nat.ne_of_beq_eq_false rfl)))).trans ((fT_id _ _ (fT_ne _ _ (Nat.ne_of_beq_eq_false rfl))).trans (fT_id _ _ (rfl)))
    have hP : va_P (dC, dI) vwCl (WR a k h0 (fT vi 0 1) vj (fT (fT (fT vF 104 (vF 104)) 105 (vF 105)) 106 (vF 106)) vG) H := by rw [e9]; exact hP
    have hD : va_D A (WR a k h0 (fT vi 0 1) vj (fT (fT (fT vF 104 (vF 104)) 105 (vF 105)) 106 (vF 106)) vG) := by rw [e9]; exact hD
    clear e9
    exact W.iret (v := 0) hx hb hr (fun t9_ ht hW => ⟨⟨0, (1, (vF 104), (vF 105), (vF 106)), rfl, by (try dsimp only); exact Or.inl ⟨hB9o, rfl, fun h9 => by omega⟩, by rw [ht]; exact hP, hD⟩, hS.F ht⟩) hS.2.2 dX12_tour_45
  · have t_2 : ¬ (sI).toInt < 0 := toI_nlt c_2 rfl (by decide)
    refine lv_iload_n hx hb dX12_tour_5 rfl (lv_at hl 1 rfl) ?_
    refine lv_sipush (v := 4096) hx hb dX12_tour_6 (by decide) ?_
    refine lv_icmp_ge (tgt := 29) hx hb dX12_tour_9 (by decide) (fun c_9 => ?_) (fun c_9 => ?_)
    · have t_9 : (sI).toInt ≥ 4096 := toI_ge c_9 rfl (by decide)
      refine lv_iconst (v := 1) hx hb dX12_tour_29 (by decide) ?_
      refine lv_goto (tgt := 34) hx hb dX12_tour_30 (by decide) ?_
      refine va_put (D := (dC, dI)) (ci := 12) (v := .int 1) (ty := .int) (C := RX12) (T := TX12) (N := 163) (fs := fM (vS a vi vj)) hx hb hts iwsRX12_tour_in12 tyX12 tyX12_ok nmX12 hown hK hP hD hS 0 rfl rfl 0 (by decide) (hts (.fieldLink RX12 348 "OptimaWorksModel" "thrown" "I") (by decide +kernel)) (fun _ h9 => h9) rfl (by decide +kernel) rfl rfl (Nat.le_of_ble_eq_true rfl) dX12_tour_34 (fun H locs hP hD hS => ?_)
      have hP : va_P (dC, dI) vwCl (WR a k h0 (fT vi 0 1) vj vF vG) H := by rw [← WR_i 0 _ rfl]; exact hP
      have hD : va_D A (WR a k h0 (fT vi 0 1) vj vF vG) := by rw [← WR_i 0 _ rfl]; exact hD
      refine lv_aload_n hx hb dX12_tour_37 rfl (lv_at hl 0 rfl) ?_
      refine va_get (D := (dC, dI)) (ci := 12) (v := .int 1) (C := RX12) (T := TX12) (N := 163) (fs := fM (vS a (fT vi 0 1) vj)) hx hb hts iwsRX12_tour_in12 hown hK hP 0 rfl rfl 0 (by decide) (hts (.fieldLink RX12 348 "OptimaWorksModel" "thrown" "I") (by decide +kernel)) (fun _ h9 => h9) rfl dX12_tour_38 ?_
      refine lv_if_le (tgt := 46) hx hb dX12_tour_41 (by decide) (fun c9 => absurd c9 (by decide)) (fun _ => ?_)
      refine lv_iconst (v := 0) hx hb dX12_tour_44 (by decide) ?_
      refine W.widen (k := 0) (n := 0) (by decide +kernel) (by decide +kernel) ?_
      have e9 : fT (fT (fT vF 104 (vF 104)) 105 (vF 105)) 106 (vF 106) = vF := (fT_id _ _ ((fT_ne _ _ (Nat.ne_of_beq_eq_false rfl)).trans (fT_ne _ _ (Nat.ne_of_beq_eq_false rfl)))).trans ((fT_id _ _ (fT_ne _ _ (Nat.ne_of_beq_eq_false rfl))).trans (fT_id _ _ (rfl)))
      have hP : va_P (dC, dI) vwCl (WR a k h0 (fT vi 0 1) vj (fT (fT (fT vF 104 (vF 104)) 105 (vF 105)) 106 (vF 106)) vG) H := by rw [e9]; exact hP
      have hD : va_D A (WR a k h0 (fT vi 0 1) vj (fT (fT (fT vF 104 (vF 104)) 105 (vF 105)) 106 (vF 106)) vG) := by rw [e9]; exact hD
      clear e9
      exact W.iret (v := 0) hx hb hr (fun t9_ ht hW => ⟨⟨0, (1, (vF 104), (vF 105), (vF 106)), rfl, by (try dsimp only); exact Or.inl ⟨hB9o, rfl, fun h9 => by omega⟩, by rw [ht]; exact hP, hD⟩, hS.F ht⟩) hS.2.2 dX12_tour_45
    · have t_9 : ¬ (sI).toInt ≥ 4096 := toI_nge c_9 rfl (by decide)
      obtain ⟨nn, h_nn, rfl⟩ := of_toInt (x := sI) (k := 4096) (by omega) (by omega)
      have e_nn : (nI nn).toInt = (nn : Int) := nI_toInt (by omega)
      have hcl := cnt_le nn 12
      refine lv_iload_n hx hb dX12_tour_12 rfl (lv_at hl 1 rfl) ?_
      have hFc := noneFree hS hA
      refine va_calli (va_runS (As := [.int (nI nn)]) (rest := [.ref h0]) ⟨hx, hb, hml, hown, hts⟩ (r_X12_onesa l dC dI nn (by first | assumption | decide | omega | rfl) s.heap.size) (va_cwS 1 hts gwsRX12_tour_0 rfl rfl rfl (by decide +kernel) ⟨by decide +kernel, by decide +kernel⟩) ⟨fun a U g mk q => by obtain ⟨q0, q1, qP, qK, qD⟩ := q; exact ⟨q0, q1, qP, va_K.moved (u := U) (U := U.calling g mk a) (Vm.Alike.refl U.vm) qK, qD⟩, fun U hU9 hW => ⟨rfl, by rw [hU9], by rw [hU9]; exact nilP, va_K.moved hW.alike (hK.sub (tys' := []) [] rfl), nilD⟩⟩ rfl rfl hl.1 rfl (lv_room (Nat.le_of_ble_eq_true rfl)) dX12_tour_13 (by decide +kernel)) hS (fun q _ h => hFc q h) hFc (fun r13 u t9_ H1 locs ht hvm hw9 hB9 hz1 hk1 hS => ?_)
      have hP := keepAll hP hk1
      clear hB9
      generalize H1 = H at hP hS ⊢
      have hP : va_P (dC, dI) vwCl (WR a k h0 vi vj vF vG) H := hP
      have hD : va_D A (WR a k h0 vi vj vF vG) := hD
      obtain rfl := hw9
      refine lv_iconst (v := 2) hx hb dX12_tour_16 (by decide) ?_
      refine lv_icmp_lt (tgt := 29) hx hb dX12_tour_17 (by decide) (fun c_17 => ?_) (fun c_17 => ?_)
      · have t_17 : (((cnt nn 12) : Nat) : Int) < 2 := toI_lt c_17 (nI_toInt (by omega)) (by decide)
        refine lv_iconst (v := 1) hx hb dX12_tour_29 (by decide) ?_
        refine lv_goto (tgt := 34) hx hb dX12_tour_30 (by decide) ?_
        refine va_put (D := (dC, dI)) (ci := 12) (v := .int 1) (ty := .int) (C := RX12) (T := TX12) (N := 163) (fs := fM (vS a vi vj)) hx hb hts iwsRX12_tour_in12 tyX12 tyX12_ok nmX12 hown hK hP hD hS 0 rfl rfl 0 (by decide) (hts (.fieldLink RX12 348 "OptimaWorksModel" "thrown" "I") (by decide +kernel)) (fun _ h9 => h9) rfl (by decide +kernel) rfl rfl (Nat.le_of_ble_eq_true rfl) dX12_tour_34 (fun H locs hP hD hS => ?_)
        have hP : va_P (dC, dI) vwCl (WR a k h0 (fT vi 0 1) vj vF vG) H := by rw [← WR_i 0 _ rfl]; exact hP
        have hD : va_D A (WR a k h0 (fT vi 0 1) vj vF vG) := by rw [← WR_i 0 _ rfl]; exact hD
        refine lv_aload_n hx hb dX12_tour_37 rfl (lv_at hl 0 rfl) ?_
        refine va_get (D := (dC, dI)) (ci := 12) (v := .int 1) (C := RX12) (T := TX12) (N := 163) (fs := fM (vS a (fT vi 0 1) vj)) hx hb hts iwsRX12_tour_in12 hown hK hP 0 rfl rfl 0 (by decide) (hts (.fieldLink RX12 348 "OptimaWorksModel" "thrown" "I") (by decide +kernel)) (fun _ h9 => h9) rfl dX12_tour_38 ?_
        refine lv_if_le (tgt := 46) hx hb dX12_tour_41 (by decide) (fun c9 => absurd c9 (by decide)) (fun _ => ?_)
        refine lv_iconst (v := 0) hx hb dX12_tour_44 (by decide) ?_
        refine W.widen (k := 0) (n := 0) (by decide +kernel) (by decide +kernel) ?_
        have e9 : fT (fT (fT vF 104 (vF 104)) 105 (vF 105)) 106 (vF 106) = vF := (fT_id _ _ ((fT_ne _ _ (Nat.ne_of_beq_eq_false rfl)).trans (fT_ne _ _ (Nat.ne_of_beq_eq_false rfl)))).trans ((fT_id _ _ (fT_ne _ _ (Nat.ne_of_beq_eq_false rfl))).trans (fT_id _ _ (rfl)))
        have hP : va_P (dC, dI) vwCl (WR a k h0 (fT vi 0 1) vj (fT (fT (fT vF 104 (vF 104)) 105 (vF 105)) 106 (vF 106)) vG) H := by rw [e9]; exact hP
        have hD : va_D A (WR a k h0 (fT vi 0 1) vj (fT (fT (fT vF 104 (vF 104)) 105 (vF 105)) 106 (vF 106)) vG) := by rw [e9]; exact hD
        clear e9
        exact W.iret (v := 0) hx hb hr (fun t9_ ht hW => ⟨⟨0, (1, (vF 104), (vF 105), (vF 106)), rfl, by (try dsimp only); exact Or.inl ⟨hB9o, rfl, fun h9 => by (have h8 := cnt_B (n := nn) (i := 12) (Nat.le_refl _)); omega⟩, by rw [ht]; exact hP, hD⟩, hS.F ht⟩) hS.2.2 dX12_tour_45
      · have t_17 : ¬ (((cnt nn 12) : Nat) : Int) < 2 := toI_nlt c_17 (nI_toInt (by omega)) (by decide)
        refine lv_iload_n hx hb dX12_tour_20 rfl (lv_at hl 1 rfl) ?_
        have hFc := noneFree hS hA
        refine va_calli (va_runS (As := [.int (nI nn)]) (rest := [.ref h0]) ⟨hx, hb, hml, hown, hts⟩ (r_X12_onesa l dC dI nn (by first | assumption | decide | omega | rfl) H.size) (va_cwS 1 hts gwsRX12_tour_0 rfl rfl rfl (by decide +kernel) ⟨by decide +kernel, by decide +kernel⟩) ⟨fun a U g mk q => by obtain ⟨q0, q1, qP, qK, qD⟩ := q; exact ⟨q0, q1, qP, va_K.moved (u := U) (U := U.calling g mk a) (Vm.Alike.refl U.vm) qK, qD⟩, fun U hU9 hW => ⟨rfl, by rw [hU9], by rw [hU9]; exact nilP, va_K.moved hW.alike (hK.sub (tys' := []) [] rfl), nilD⟩⟩ rfl rfl hl.1 rfl (lv_room (Nat.le_of_ble_eq_true rfl)) dX12_tour_21 (by decide +kernel)) hS (fun q _ h => hFc q h) hFc (fun r21 u t9_ H1 locs ht hvm hw9 hB9 hz1 hk1 hS => ?_)
        have hP := keepAll hP hk1
        clear hB9
        generalize H1 = H at hP hS ⊢
        have hP : va_P (dC, dI) vwCl (WR a k h0 vi vj vF vG) H := hP
        have hD : va_D A (WR a k h0 vi vj vF vG) := hD
        obtain rfl := hw9
        refine lv_bipush (v := 8) hx hb dX12_tour_24 (by decide) ?_
        refine lv_icmp_le (tgt := 33) hx hb dX12_tour_26 (by decide) (fun c_26 => ?_) (fun c_26 => ?_)
        · have t_26 : (((cnt nn 12) : Nat) : Int) ≤ 8 := toI_le c_26 (nI_toInt (by omega)) (by decide)
          refine lv_iconst (v := 0) hx hb dX12_tour_33 (by decide) ?_
          refine va_put (D := (dC, dI)) (ci := 12) (v := .int 0) (ty := .int) (C := RX12) (T := TX12) (N := 163) (fs := fM (vS a vi vj)) hx hb hts iwsRX12_tour_in12 tyX12 tyX12_ok nmX12 hown hK hP hD hS 0 rfl rfl 0 (by decide) (hts (.fieldLink RX12 348 "OptimaWorksModel" "thrown" "I") (by decide +kernel)) (fun _ h9 => h9) rfl (by decide +kernel) rfl rfl (Nat.le_of_ble_eq_true rfl) dX12_tour_34 (fun H locs hP hD hS => ?_)
          have hP : va_P (dC, dI) vwCl (WR a k h0 (fT vi 0 0) vj vF vG) H := by rw [← WR_i 0 _ rfl]; exact hP
          have hD : va_D A (WR a k h0 (fT vi 0 0) vj vF vG) := by rw [← WR_i 0 _ rfl]; exact hD
          refine lv_aload_n hx hb dX12_tour_37 rfl (lv_at hl 0 rfl) ?_
          refine va_get (D := (dC, dI)) (ci := 12) (v := .int 0) (C := RX12) (T := TX12) (N := 163) (fs := fM (vS a (fT vi 0 0) vj)) hx hb hts iwsRX12_tour_in12 hown hK hP 0 rfl rfl 0 (by decide) (hts (.fieldLink RX12 348 "OptimaWorksModel" "thrown" "I") (by decide +kernel)) (fun _ h9 => h9) rfl dX12_tour_38 ?_
          refine lv_if_le (tgt := 46) hx hb dX12_tour_41 (by decide) (fun _ => ?_) (fun c9 => absurd (by decide) c9)
          refine lv_iconst (v := 0) hx hb dX12_tour_46 (by decide) ?_
          refine lv_istore_n hx hb dX12_tour_47 rfl hl (by decide) rfl (fun ls (hl : lv_has ls _ ([(3, .int 0), (0, .ref h0), (1, .int (nI nn)), (2, .int iI)])) => ?_)
          refine lv_iconst (v := 0) hx hb dX12_tour_48 (by decide) ?_
          refine lv_istore hx hb dX12_tour_49 hl (by decide) rfl (fun ls (hl : lv_has ls _ ([(4, .int 0), (3, .int 0), (0, .ref h0), (1, .int (nI nn)), (2, .int iI)])) => ?_)
          have e9 : fT (fT vF 104 (vF 104)) 105 (vF 105) = vF := by funext q9; by_cases h9_104 : q9 = 104; (subst h9_104; exact ((fT_ne _ _ (Nat.ne_of_beq_eq_false rfl)).trans (fT_eq _ _ _)).trans (Eq.trans (by first | rfl | assumption | (symm; assumption) | (subst_vars; rfl)) (Eq.refl _).symm)); by_cases h9_105 : q9 = 105; (subst h9_105; exact (fT_eq _ _ _).trans (Eq.trans (by first | rfl | assumption | (symm; assumption) | (subst_vars; rfl)) (Eq.refl _).symm)); exact ((fT_ne _ _ h9_105).trans (fT_ne _ _ h9_104)).trans (Eq.refl _).symm
          have hP : va_P (dC, dI) vwCl (WR a k h0 (fT vi 0 0) vj (fT (fT vF 104 (vF 104)) 105 (vF 105)) vG) H := by rw [e9]; exact hP
          have hD : va_D A (WR a k h0 (fT vi 0 0) vj (fT (fT vF 104 (vF 104)) 105 (vF 105)) vG) := by rw [e9]; exact hD
          clear e9
          have hl : lv_has _ _ ([(4, .int (nI 0)), (3, .int (nI 0)), (0, .ref h0), (1, .int (nI nn)), (2, .int iI)]) := lv_sub hl [0, 1, 2, 3, 4] rfl
          refine (fun (loop : ∀ (n9 : Nat) (i5 : Nat) (K5 : Nat) (gm : Nat → Int32) (go : Nat → Int32) (H : Heap) (locs : List Loc) (ls : Array Slot), (i5 ≤ 12) → (Bo go) → (K5 = cnt nn i5) → (∀ j, j < K5 → go j = nI j) → (∀ j, j < K5 → gm j = nI (tuK (bI (nI nn)) j)) →  (12 < i5 + n9) → va_P (dC, dI) vwCl (WR a k h0 (fT vi 0 0) vj (fT (fT vF 104 gm) 105 go) vG) H → va_D A (WR a k h0 (fT vi 0 0) vj (fT (fT vF 104 gm) 105 go) vG) → va_S A s.heap H locs → lv_has ls 8 [(4, .int (nI i5)), (3, .int (nI K5)), (0, .ref h0), (1, .int (nI nn)), (2, .int iI)] → W p l e _ s m _ below meth c H locs 0 0 _ (F0 m 51 ls [])) => loop (13) 0 0 (vF 104) (vF 105) _ _ _ (by omega) (hB9o) (rfl) (fun j h => absurd h (by omega)) (fun j h => absurd h (by omega)) (by omega) hP hD hS hl) ?_
          intro n9
          induction n9 with
          | zero => intro i5 K5 gm go H locs ls hi5 hB0 hKc hgo hgm hf9; exact False.elim (by omega)
          | succ n9 ih51 =>
            intro i5 K5 gm go H locs ls hi5 hB0 hKc hgo hgm hf51 hP hD hS hl
            refine lv_iload hx hb dX12_tour_51 (lv_at hl 0 rfl) ?_
            refine lv_bipush (v := 12) hx hb dX12_tour_53 (by decide) ?_
            refine lv_icmp_ge (tgt := 94) hx hb dX12_tour_55 (by decide) (fun c_55 => ?_) (fun c_55 => ?_)
            · have t_55 : ((i5 : Nat) : Int) ≥ 12 := toI_ge c_55 (nI_toInt (by omega)) (by decide)
              have ei5 : i5 = 12 := by omega
              have hK12 : K5 = cnt nn 12 := by rw [hKc, ei5]
              have hI0 : Io K5 go := fun i9 j9 hi9 hj9 e9 => by rw [hgo i9 hi9, hgo j9 hj9] at e9; exact (nI_eq (by omega) (by omega)).mp e9
              have hPP : tuP (fun x y => tuL (((ar : Nat) : Int), vF 95, vF 96, vF 97, vF 98) (tuK (bI (nI nn)) x) (tuK (bI (nI nn)) y) ar) := fun x y => tuL_r (ArO.val hAr) _ _ (Int.le_refl _)
              refine lv_iconst (v := (-1)) hx hb dX12_tour_94 (by decide) ?_
              refine lv_istore hx hb dX12_tour_95 hl (by decide) rfl (fun ls (hl : lv_has ls _ ([(4, .int (-1)), (3, .int (nI K5)), (0, .ref h0), (1, .int (nI nn)), (2, .int iI)])) => ?_)
              refine lv_iconst (v := 1) hx hb dX12_tour_97 (by decide) ?_
              refine lv_istore hx hb dX12_tour_98 hl (by decide) rfl (fun ls (hl : lv_has ls _ ([(5, .int 1), (4, .int (-1)), (3, .int (nI K5)), (0, .ref h0), (1, .int (nI nn)), (2, .int iI)])) => ?_)
              have e9 : fT (fT (fT vF 104 gm) 105 go) 106 (vF 106) = fT (fT vF 104 gm) 105 go := by funext q9; by_cases h9_104 : q9 = 104; (subst h9_104; exact ((fT_ne _ _ (Nat.ne_of_beq_eq_false rfl)).trans ((fT_ne _ _ (Nat.ne_of_beq_eq_false rfl)).trans (fT_eq _ _ _))).trans (Eq.trans (by first | rfl | assumption | (symm; assumption) | (subst_vars; rfl)) ((fT_ne _ _ (Nat.ne_of_beq_eq_false rfl)).trans (fT_eq _ _ _)).symm)); by_cases h9_105 : q9 = 105; (subst h9_105; exact ((fT_ne _ _ (Nat.ne_of_beq_eq_false rfl)).trans (fT_eq _ _ _)).trans (Eq.trans (by first | rfl | assumption | (symm; assumption) | (subst_vars; rfl)) (fT_eq _ _ _).symm)); by_cases h9_106 : q9 = 106; (subst h9_106; exact (fT_eq _ _ _).trans (Eq.trans (by first | rfl | assumption | (symm; assumption) | (subst_vars; rfl)) ((fT_ne _ _ (Nat.ne_of_beq_eq_false rfl)).trans (fT_ne _ _ (Nat.ne_of_beq_eq_false rfl))).symm)); exact ((fT_ne _ _ h9_106).trans ((fT_ne _ _ h9_105).trans (fT_ne _ _ h9_104))).trans ((fT_ne _ _ h9_105).trans (fT_ne _ _ h9_104)).symm
              have hP : va_P (dC, dI) vwCl (WR a k h0 (fT vi 0 0) vj (fT (fT (fT vF 104 gm) 105 go) 106 (vF 106)) vG) H := by rw [e9]; exact hP
              have hD : va_D A (WR a k h0 (fT vi 0 0) vj (fT (fT (fT vF 104 gm) 105 go) 106 (vF 106)) vG) := by rw [e9]; exact hD
              clear e9
              have hl : lv_has _ _ ([(5, .int 1), (4, .int (-1)), (3, .int (nI K5)), (0, .ref h0), (2, .int iI)]) := lv_sub hl [0, 1, 2, 3, 5] rfl
              refine (fun (loop : ∀ (n9 : Nat) (be : Int32) (mo : Int32) (fo : Nat → Int32) (tbq : Nat → Int32) (H : Heap) (locs : List Loc) (ls : Array Slot), (Bo fo) → (Io K5 fo) → (∀ i, i < K5 → (fo i).toInt < ((K5 : Nat) : Int)) → ((fo 0).toInt = 0) → ((mo = 0 ∧ tuH (fun x y => tuL (((ar : Nat) : Int), vF 95, vF 96, vF 97, vF 98) (tuK (bI (nI nn)) x) (tuK (bI (nI nn)) y) ar) K5 (tuK (bI (nI nn))) (fun _ => True) (be).toInt (fun j => (tbq j).toInt)) ∨ (¬ mo = 0 ∧ tuH (fun x y => tuL (((ar : Nat) : Int), vF 95, vF 96, vF 97, vF 98) (tuK (bI (nI nn)) x) (tuK (bI (nI nn)) y) ar) K5 (tuK (bI (nI nn))) (fun p => tuLt K5 p (tuOf fo)) (be).toInt (fun j => (tbq j).toInt))) →  ((mo = 0 ∧ 0 < n9) ∨ 16777216 < Vo fo + (n9 : Int)) → va_P (dC, dI) vwCl (WR a k h0 (fT vi 0 0) vj (fT (fT (fT vF 104 gm) 105 fo) 106 tbq) vG) H → va_D A (WR a k h0 (fT vi 0 0) vj (fT (fT (fT vF 104 gm) 105 fo) 106 tbq) vG) → va_S A s.heap H locs → lv_has ls 8 [(5, .int mo), (4, .int be), (3, .int (nI K5)), (0, .ref h0), (2, .int iI)] → W p l e _ s m _ below meth c H locs 0 0 _ (F0 m 100 ls [])) => loop (16777217) (-1) 1 go (vF 106) _ _ _ (hB0) (hI0) (fun i hi => by rw [hgo i hi, nI_toInt (by omega)]; omega) (by rw [hgo 0 (by omega)]; rfl) (Or.inr ⟨by decide, tuH.start (fun j hj => by show (go j).toInt.toNat = j; rw [hgo j hj, nI_toInt (by omega)]; omega) (by decide)⟩) (by (have h9 := Vo_rng hB0); exact Or.inr (by omega)) hP hD hS hl) ?_
              intro n9
              induction n9 with
              | zero => intro be mo fo tbq H locs ls hBo hIo hRf hf0 hH hf9; exact False.elim (by (have h9 := Vo_rng hBo); omega)
              | succ n9 ih100_1 =>
                intro be mo fo tbq H locs ls hBo hIo hRf hf0 hH hf100_1 hP hD hS hl
                have hfx := hf100_1
                refine lv_iload hx hb dX12_tour_100 (lv_at hl 0 rfl) ?_
                refine lv_if_eq (tgt := 179) hx hb dX12_tour_102 (by decide) (fun c_102 => ?_) (fun c_102 => ?_)
                · have t_102 : (mo).toInt = 0 := toI_eq c_102 rfl (by decide)
                  have hHe := (hH.resolve_right (fun h => h.1 c_102)).2
                  have eK : K5 = cntB (bI (nI nn)) 12 := hK12.trans (cnt_B (Nat.le_refl _))
                  rw [eK] at hHe
                  refine lv_iload_n hx hb dX12_tour_179 rfl (lv_at hl 4 rfl) ?_
                  refine lv_bipush (v := (-2)) hx hb dX12_tour_180 (by decide) ?_
                  refine lv_icmp_ne (tgt := 188) hx hb dX12_tour_182 (by decide) (fun c_182 => ?_) (fun c_182 => ?_)
                  · have t_182 : (iI).toInt ≠ -2 := toI_ne c_182 rfl (by decide)
                    refine lv_iload hx hb dX12_tour_188 (lv_at hl 1 rfl) ?_
                    refine lv_iconst (v := (-1)) hx hb dX12_tour_190 (by decide) ?_
                    refine lv_icmp_eq (tgt := 203) hx hb dX12_tour_191 (by decide) (fun c_191 => ?_) (fun c_191 => ?_)
                    · have t_191 : (be).toInt = -1 := toI_eq c_191 rfl (by decide)
                      refine lv_iconst (v := (-1)) hx hb dX12_tour_203 (by decide) ?_
                      refine lv_goto (tgt := 213) hx hb dX12_tour_204 (by decide) ?_
                      refine W.widen (k := 0) (n := 0) (by decide +kernel) (by decide +kernel) ?_
                      exact W.iret (v := (-1)) hx hb hr (fun t9_ ht hW => ⟨⟨(-1), (0, gm, fo, tbq), rfl, by (try dsimp only); exact Or.inr ⟨hBo, rfl, ⟨by rw [nI_toInt (by omega)]; omega, by rw [nI_toInt (by omega)]; omega, by omega, by omega⟩, tuH.ans (ArO.val hAr) (by (try dsimp only); omega) hHe (Or.inr (Or.inl ⟨t_182, Or.inl t_191, by decide⟩))⟩, by rw [ht]; exact hP, hD⟩, hS.F ht⟩) hS.2.2 dX12_tour_213
                    · have t_191 : ¬ (be).toInt = -1 := toI_neq c_191 rfl (by decide)
                      refine lv_iload_n hx hb dX12_tour_194 rfl (lv_at hl 4 rfl) ?_
                      refine lv_if_lt (tgt := 203) hx hb dX12_tour_195 (by decide) (fun c_195 => ?_) (fun c_195 => ?_)
                      · have t_195 : (iI).toInt < 0 := toI_lt c_195 rfl (by decide)
                        refine lv_iconst (v := (-1)) hx hb dX12_tour_203 (by decide) ?_
                        refine lv_goto (tgt := 213) hx hb dX12_tour_204 (by decide) ?_
                        refine W.widen (k := 0) (n := 0) (by decide +kernel) (by decide +kernel) ?_
                        exact W.iret (v := (-1)) hx hb hr (fun t9_ ht hW => ⟨⟨(-1), (0, gm, fo, tbq), rfl, by (try dsimp only); exact Or.inr ⟨hBo, rfl, ⟨by rw [nI_toInt (by omega)]; omega, by rw [nI_toInt (by omega)]; omega, by omega, by omega⟩, tuH.ans (ArO.val hAr) (by (try dsimp only); omega) hHe (Or.inr (Or.inl ⟨t_182, Or.inr (Or.inl t_195), by decide⟩))⟩, by rw [ht]; exact hP, hD⟩, hS.F ht⟩) hS.2.2 dX12_tour_213
                      · have t_195 : ¬ (iI).toInt < 0 := toI_nlt c_195 rfl (by decide)
                        refine lv_iload_n hx hb dX12_tour_198 rfl (lv_at hl 4 rfl) ?_
                        refine lv_iload_n hx hb dX12_tour_199 rfl (lv_at hl 2 rfl) ?_
                        refine lv_icmp_lt (tgt := 207) hx hb dX12_tour_200 (by decide) (fun c_200 => ?_) (fun c_200 => ?_)
                        · have t_200 : (iI).toInt < ((K5 : Nat) : Int) := toI_lt c_200 rfl (nI_toInt (by omega))
                          refine lv_aload_n hx hb dX12_tour_207 rfl (lv_at hl 3 rfl) ?_
                          refine va_get (D := (dC, dI)) (ci := 12) (v := .ref (a 106)) (C := RX12) (T := TX12) (N := 163) (fs := fM (vS a (fT vi 0 0) vj)) hx hb hts iwsRX12_tour_in12 hown hK hP 0 rfl rfl 162 (by decide) (hts (.fieldLink RX12 345 "OptimaWorksModel" "tourBest" "[I") (by decide +kernel)) (fun _ h9 => h9) rfl dX12_tour_208 ?_
                          refine lv_iload_n hx hb dX12_tour_211 rfl (lv_at hl 4 rfl) ?_
                          refine va_iald (cA := k 106) (n := 8) (f := tbq) hx hb hK hP 107 106 (WR_get 106 (by decide)) (TR_get 106 (by decide)) (vp_in_iff.mpr (by omega)) dX12_tour_212 ?_
                          refine W.widen (k := 0) (n := 0) (by decide +kernel) (by decide +kernel) ?_
                          exact W.iret (v := (tbq (iI).toNatClampNeg)) hx hb hr (fun t9_ ht hW => ⟨⟨(tbq (iI).toNatClampNeg), (0, gm, fo, tbq), rfl, by (try dsimp only); exact Or.inr ⟨hBo, rfl, ⟨by rw [nI_toInt (by omega)]; omega, by rw [nI_toInt (by omega)]; omega, by omega, by omega⟩, tuH.ans (ArO.val hAr) (by (try dsimp only); omega) hHe (Or.inr (Or.inr ⟨t_191, by omega, by omega, rfl⟩))⟩, by rw [ht]; exact hP, hD⟩, hS.F ht⟩) hS.2.2 dX12_tour_213
                        · have t_200 : ¬ (iI).toInt < ((K5 : Nat) : Int) := toI_nlt c_200 rfl (nI_toInt (by omega))
                          refine lv_iconst (v := (-1)) hx hb dX12_tour_203 (by decide) ?_
                          refine lv_goto (tgt := 213) hx hb dX12_tour_204 (by decide) ?_
                          refine W.widen (k := 0) (n := 0) (by decide +kernel) (by decide +kernel) ?_
                          exact W.iret (v := (-1)) hx hb hr (fun t9_ ht hW => ⟨⟨(-1), (0, gm, fo, tbq), rfl, by (try dsimp only); exact Or.inr ⟨hBo, rfl, ⟨by rw [nI_toInt (by omega)]; omega, by rw [nI_toInt (by omega)]; omega, by omega, by omega⟩, tuH.ans (ArO.val hAr) (by (try dsimp only); omega) hHe (Or.inr (Or.inl ⟨t_182, Or.inr (Or.inr (by omega)), by decide⟩))⟩, by rw [ht]; exact hP, hD⟩, hS.F ht⟩) hS.2.2 dX12_tour_213
                  · have t_182 : (iI).toInt = -2 := toI_nne c_182 rfl (by decide)
                    refine lv_iload hx hb dX12_tour_185 (lv_at hl 1 rfl) ?_
                    refine W.widen (k := 0) (n := 0) (by decide +kernel) (by decide +kernel) ?_
                    exact W.iret (v := be) hx hb hr (fun t9_ ht hW => ⟨⟨be, (0, gm, fo, tbq), rfl, by (try dsimp only); exact Or.inr ⟨hBo, rfl, ⟨by rw [nI_toInt (by omega)]; omega, by rw [nI_toInt (by omega)]; omega, by omega, by omega⟩, tuH.ans (ArO.val hAr) (by (try dsimp only); omega) hHe (Or.inl ⟨t_182, rfl⟩)⟩, by rw [ht]; exact hP, hD⟩, hS.F ht⟩) hS.2.2 dX12_tour_187
                · have t_102 : ¬ (mo).toInt = 0 := toI_neq c_102 rfl (by decide)
                  have hHb := (hH.resolve_left (fun h => c_102 h.1)).2
                  have hV : tuV K5 (tuOf fo) := tuOf_v hBo (by omega) hIo hRf hf0
                  refine lv_aload_n hx hb dX12_tour_105 rfl (lv_at hl 3 rfl) ?_
                  refine lv_iload_n hx hb dX12_tour_106 rfl (lv_at hl 2 rfl) ?_
                  have hFc := allFree hD hS hA
                  refine va_calli (va_runV (As := [.int (nI K5)]) (rest := []) ⟨hx, hb, hml, hown, hts⟩ (r_X12_tourCost l dC dI a k h0 (fT vi 0 0) vj (fT (fT (fT vF 104 gm) 105 fo) 106 tbq) vG (bI (nI nn)) K5 ar (by first | assumption | decide | omega | rfl) (by first | assumption | decide | omega | rfl) har (by first | assumption | decide | omega | rfl) (by first | assumption | decide | omega | rfl) (hBo) (hgm) (hRf) H.size) (cwV 1 hts gwsRX12_tour_1 rfl rfl rfl hd_yX12_tourCost_RX12 (by decide +kernel)) (fz_pre (va_recv hK hP (ci := 12) (q0 := 0) rfl rfl) hP hK hD) rfl rfl hl.1 rfl (lv_room (Nat.le_of_ble_eq_true rfl)) dX12_tour_107 (by decide +kernel)) hS (fun q _ h => hFc q h) hFc (fun r107 u t9_ H locs ht hvm hw9 hB9 hz1 hk1 hS => ?_)
                  have hP : va_P (dC, dI) vwCl (WR a k h0 (fT vi 0 0) vj (fT (fT (fT vF 104 gm) 105 fo) 106 tbq) vG) H := fz_P ht hB9.1
                  have hD : va_D A (WR a k h0 (fT vi 0 0) vj (fT (fT (fT vF 104 gm) 105 fo) 106 tbq) vG) := hB9.2.weaken (fun _ q _ h => hFc q.1 h)
                  have f107_0 := hw9
                  try dsimp only at f107_0
                  have f107_0 : (r107.toInt = -1 ∧ ¬ tuC (fun x y => tuL (((ar : Nat) : Int), (vF 95), (vF 96), (vF 97), (vF 98)) (tuK (bI (nI nn)) x) (tuK (bI (nI nn)) y) ar) K5 (tuOf fo) K5 < 536870912) ∨ (¬ r107.toInt = -1 ∧ r107.toInt = tuC (fun x y => tuL (((ar : Nat) : Int), (vF 95), (vF 96), (vF 97), (vF 98)) (tuK (bI (nI nn)) x) (tuK (bI (nI nn)) y) ar) K5 (tuOf fo) K5 ∧ tuC (fun x y => tuL (((ar : Nat) : Int), (vF 95), (vF 96), (vF 97), (vF 98)) (tuK (bI (nI nn)) x) (tuK (bI (nI nn)) y) ar) K5 (tuOf fo) K5 < 536870912) := f107_0
                  refine lv_istore hx hb dX12_tour_110 hl (by decide) rfl (fun ls (hl : lv_has ls _ ([(6, .int r107), (5, .int mo), (4, .int be), (3, .int (nI K5)), (0, .ref h0), (2, .int iI)])) => ?_)
                  refine lv_iload hx hb dX12_tour_112 (lv_at hl 0 rfl) ?_
                  refine lv_iconst (v := (-1)) hx hb dX12_tour_114 (by decide) ?_
                  refine W.cut (pc := 169) (fun H locs ls stk => ∃ (be2 : Int32) (tb2 : Nat → Int32), (tuH (fun x y => tuL (((ar : Nat) : Int), vF 95, vF 96, vF 97, vF 98) (tuK (bI (nI nn)) x) (tuK (bI (nI nn)) y) ar) K5 (tuK (bI (nI nn))) (tuD K5 (tuOf fo)) (be2).toInt (fun j => (tb2 j).toInt)) ∧  stk = [] ∧ va_P (dC, dI) vwCl (WR a k h0 (fT vi 0 0) vj (fT (fT (fT vF 104 gm) 105 fo) 106 tb2) vG) H ∧ va_D A (WR a k h0 (fT vi 0 0) vj (fT (fT (fT vF 104 gm) 105 fo) 106 tb2) vG) ∧ va_S A s.heap H locs ∧ lv_has ls 8 [(5, .int mo), (4, .int be2), (3, .int (nI K5)), (0, .ref h0), (2, .int iI)]) (fun join1 => ?_) ?_
                  · refine lv_icmp_eq (tgt := 169) hx hb dX12_tour_115 (by decide) (fun c_115 => ?_) (fun c_115 => ?_)
                    · have t_115 : (r107).toInt = -1 := toI_eq c_115 rfl (by decide)
                      have hl : lv_has _ _ ([(5, .int mo), (4, .int be), (3, .int (nI K5)), (0, .ref h0), (2, .int iI)]) := lv_sub hl [1, 2, 3, 4, 5] rfl
                      exact join1 _ _ _ _ ⟨be, tbq, tuH.far (by omega) hHb (f107_0.elim (fun h => h.2) (fun h => absurd t_115 h.1)), rfl, hP, hD, hS, hl⟩
                    · have t_115 : ¬ (r107).toInt = -1 := toI_neq c_115 rfl (by decide)
                      refine lv_iload hx hb dX12_tour_118 (lv_at hl 2 rfl) ?_
                      refine lv_iconst (v := (-1)) hx hb dX12_tour_120 (by decide) ?_
                      refine lv_icmp_eq (tgt := 131) hx hb dX12_tour_121 (by decide) (fun c_121 => ?_) (fun c_121 => ?_)
                      · have t_121 : (be).toInt = -1 := toI_eq c_121 rfl (by decide)
                        refine lv_iload hx hb dX12_tour_131 (lv_at hl 0 rfl) ?_
                        refine lv_istore hx hb dX12_tour_133 hl (by decide) rfl (fun ls (hl : lv_has ls _ ([(4, .int r107), (6, .int r107), (5, .int mo), (3, .int (nI K5)), (0, .ref h0), (2, .int iI)])) => ?_)
                        refine lv_iconst (v := 0) hx hb dX12_tour_135 (by decide) ?_
                        refine lv_istore hx hb dX12_tour_136 hl (by decide) rfl (fun ls (hl : lv_has ls _ ([(7, .int 0), (4, .int r107), (6, .int r107), (5, .int mo), (3, .int (nI K5)), (0, .ref h0), (2, .int iI)])) => ?_)
                        have hl : lv_has _ _ ([(5, .int mo), (4, .int r107), (3, .int (nI K5)), (0, .ref h0), (2, .int iI), (7, .int (nI 0))]) := lv_sub hl [3, 1, 4, 5, 6, 0] rfl
                        refine (fun (loop : ∀ (n9 : Nat) (k7 : Nat) (tb : Nat → Int32) (H : Heap) (locs : List Loc) (ls : Array Slot), (k7 ≤ K5) → (∀ j, j < k7 → tb j = nI (tuK (bI (nI nn)) (tuOf fo j))) →  (K5 < k7 + n9) → va_P (dC, dI) vwCl (WR a k h0 (fT vi 0 0) vj (fT (fT (fT vF 104 gm) 105 fo) 106 tb) vG) H → va_D A (WR a k h0 (fT vi 0 0) vj (fT (fT (fT vF 104 gm) 105 fo) 106 tb) vG) → va_S A s.heap H locs → lv_has ls 8 [(5, .int mo), (4, .int r107), (3, .int (nI K5)), (0, .ref h0), (2, .int iI), (7, .int (nI k7))] → W p l e _ s m _ below meth c H locs 0 0 _ (F0 m 138 ls [])) => loop (K5 + 1) 0 tbq _ _ _ (by omega) (fun j h => absurd h (by omega)) (by omega) hP hD hS hl) ?_
                        intro n9
                        induction n9 with
                        | zero => intro k7 tb H locs ls hk7 htb hf9; exact False.elim (by omega)
                        | succ n9 ih138_2 =>
                          intro k7 tb H locs ls hk7 htb hf138_2 hP hD hS hl
                          refine lv_iload hx hb dX12_tour_138 (lv_at hl 5 rfl) ?_
                          refine lv_iload_n hx hb dX12_tour_140 rfl (lv_at hl 2 rfl) ?_
                          refine lv_icmp_ge (tgt := 169) hx hb dX12_tour_141 (by decide) (fun c_141 => ?_) (fun c_141 => ?_)
                          · have t_141 : ((k7 : Nat) : Int) ≥ ((K5 : Nat) : Int) := toI_ge c_141 (nI_toInt (by omega)) (nI_toInt (by omega))
                            have hl : lv_has _ _ ([(5, .int mo), (4, .int r107), (3, .int (nI K5)), (0, .ref h0), (2, .int iI)]) := lv_sub hl [0, 1, 2, 3, 4] rfl
                            exact join1 _ _ _ _ ⟨r107, tb, tuH.less hPP (by omega) hV hHb (f107_0.resolve_left (fun h => t_115 h.1)).2.1 (by (have h9 := f107_0.resolve_left (fun h => t_115 h.1)); omega) (Or.inl t_121) (fun j hj => by rw [htb j (by omega), nI_toInt (by (have h9 := tuK_lt (bI (nI nn)) (tuOf fo j)); omega)]), rfl, hP, hD, hS, hl⟩
                          · have t_141 : ¬ ((k7 : Nat) : Int) ≥ ((K5 : Nat) : Int) := toI_nge c_141 (nI_toInt (by omega)) (nI_toInt (by omega))
                            refine lv_aload_n hx hb dX12_tour_144 rfl (lv_at hl 3 rfl) ?_
                            refine va_get (D := (dC, dI)) (ci := 12) (v := .ref (a 106)) (C := RX12) (T := TX12) (N := 163) (fs := fM (vS a (fT vi 0 0) vj)) hx hb hts iwsRX12_tour_in12 hown hK hP 0 rfl rfl 162 (by decide) (hts (.fieldLink RX12 345 "OptimaWorksModel" "tourBest" "[I") (by decide +kernel)) (fun _ h9 => h9) rfl dX12_tour_145 ?_
                            refine lv_iload hx hb dX12_tour_148 (lv_at hl 5 rfl) ?_
                            refine lv_aload_n hx hb dX12_tour_150 rfl (lv_at hl 3 rfl) ?_
                            refine va_get (D := (dC, dI)) (ci := 12) (v := .ref (a 104)) (C := RX12) (T := TX12) (N := 163) (fs := fM (vS a (fT vi 0 0) vj)) hx hb hts iwsRX12_tour_in12 hown hK hP 0 rfl rfl 160 (by decide) (hts (.fieldLink RX12 339 "OptimaWorksModel" "member1" "[I") (by decide +kernel)) (fun _ h9 => h9) rfl dX12_tour_151 ?_
                            refine lv_aload_n hx hb dX12_tour_154 rfl (lv_at hl 3 rfl) ?_
                            refine va_get (D := (dC, dI)) (ci := 12) (v := .ref (a 105)) (C := RX12) (T := TX12) (N := 163) (fs := fM (vS a (fT vi 0 0) vj)) hx hb hts iwsRX12_tour_in12 hown hK hP 0 rfl rfl 161 (by decide) (hts (.fieldLink RX12 342 "OptimaWorksModel" "order" "[I") (by decide +kernel)) (fun _ h9 => h9) rfl dX12_tour_155 ?_
                            refine lv_iload hx hb dX12_tour_158 (lv_at hl 5 rfl) ?_
                            refine va_iald (cA := k 105) (n := 8) (f := fo) hx hb hK hP 106 105 (WR_get 105 (by decide)) (TR_get 105 (by decide)) (vp_in_nI (show k7 < 8 by omega) (by omega)) dX12_tour_160 ?_
                            refine lv_topi (fun y1 hy1 => ?_)
                            obtain rfl : (fo k7) = y1 := (hy1.trans (by rw [nI_clamp (by omega)])).symm
                            refine va_iald (cA := k 104) (n := 8) (f := gm) hx hb hK hP 105 104 (WR_get 104 (by decide)) (TR_get 104 (by decide)) (vp_in_iff.mpr (by have h9 := hBo k7 (by omega); omega)) dX12_tour_161 ?_
                            refine lv_topi (fun y2 hy2 => ?_)
                            obtain rfl : (nI (tuK (bI (nI nn)) (tuOf fo k7))) = y2 := (hy2.trans (hgm (fo k7).toInt.toNat (by have h9 := hRf k7 (by omega); have h8 := hBo k7 (by omega); omega))).symm
                            refine va_iast (cA := k 106) (n := 8) (f := tb) hx hb hK hP hD hS 107 106 (WR_get 106 (by decide)) (TR_get 106 (by decide)) (vp_in_nI (show k7 < 8 by omega) (by omega)) dX12_tour_162 (fun H locs hP hD hS => ?_)
                            have e9 : fT (fT (fT vF 104 gm) 105 fo) 106 (upd tb ((nI k7)).toNatClampNeg (nI (tuK (bI (nI nn)) (tuOf fo k7)))) = fT (fT (fT (fT vF 104 gm) 105 fo) 106 tb) 106 (upd tb ((nI k7)).toNatClampNeg (nI (tuK (bI (nI nn)) (tuOf fo k7)))) := (fT_sm _ _ _ _).symm
                            have hP : va_P (dC, dI) vwCl (WR a k h0 (fT vi 0 0) vj (fT (fT (fT vF 104 gm) 105 fo) 106 (upd tb ((nI k7)).toNatClampNeg (nI (tuK (bI (nI nn)) (tuOf fo k7))))) vG) H := by rw [e9, ← WR_F 106 (by decide) _ rfl]; exact hP
                            have hD : va_D A (WR a k h0 (fT vi 0 0) vj (fT (fT (fT vF 104 gm) 105 fo) 106 (upd tb ((nI k7)).toNatClampNeg (nI (tuK (bI (nI nn)) (tuOf fo k7))))) vG) := by rw [e9, ← WR_F 106 (by decide) _ rfl]; exact hD
                            clear e9
                            refine lv_iinc (v := (nI (k7 + 1))) hx hb dX12_tour_163 hl (k := 5) rfl (nI_add k7 1) (by decide) rfl (fun ls (hl : lv_has ls _ ([(7, .int (nI (k7 + 1))), (5, .int mo), (4, .int r107), (3, .int (nI K5)), (0, .ref h0), (2, .int iI)])) => ?_)
                            refine lv_goto (tgt := 138) hx hb dX12_tour_166 (by decide) ?_
                            have hl : lv_has _ _ ([(5, .int mo), (4, .int r107), (3, .int (nI K5)), (0, .ref h0), (2, .int iI), (7, .int (nI (k7 + 1)))]) := lv_sub hl [1, 2, 3, 4, 5, 0] rfl
                            exact ih138_2 (k7 + 1) (upd tb ((nI k7)).toNatClampNeg (nI (tuK (bI (nI nn)) (tuOf fo k7)))) _ _ _ (by omega) (fun j hj => by rw [upd_at (by omega)]; by_cases e9 : j = k7; (rw [if_pos e9, e9]); (rw [if_neg e9]; exact htb j (by omega))) (by omega) hP hD hS hl
                      · have t_121 : ¬ (be).toInt = -1 := toI_neq c_121 rfl (by decide)
                        refine lv_iload hx hb dX12_tour_124 (lv_at hl 0 rfl) ?_
                        refine lv_iload hx hb dX12_tour_126 (lv_at hl 2 rfl) ?_
                        refine lv_icmp_ge (tgt := 169) hx hb dX12_tour_128 (by decide) (fun c_128 => ?_) (fun c_128 => ?_)
                        · have t_128 : (r107).toInt ≥ (be).toInt := toI_ge c_128 rfl rfl
                          have hl : lv_has _ _ ([(5, .int mo), (4, .int be), (3, .int (nI K5)), (0, .ref h0), (2, .int iI)]) := lv_sub hl [1, 2, 3, 4, 5] rfl
                          exact join1 _ _ _ _ ⟨be, tbq, tuH.more (by omega) hHb t_121 (by (have h9 := (f107_0.resolve_left (fun h => t_115 h.1)).2.1); omega), rfl, hP, hD, hS, hl⟩
                        · have t_128 : ¬ (r107).toInt ≥ (be).toInt := toI_nge c_128 rfl rfl
                          refine lv_iload hx hb dX12_tour_131 (lv_at hl 0 rfl) ?_
                          refine lv_istore hx hb dX12_tour_133 hl (by decide) rfl (fun ls (hl : lv_has ls _ ([(4, .int r107), (6, .int r107), (5, .int mo), (3, .int (nI K5)), (0, .ref h0), (2, .int iI)])) => ?_)
                          refine lv_iconst (v := 0) hx hb dX12_tour_135 (by decide) ?_
                          refine lv_istore hx hb dX12_tour_136 hl (by decide) rfl (fun ls (hl : lv_has ls _ ([(7, .int 0), (4, .int r107), (6, .int r107), (5, .int mo), (3, .int (nI K5)), (0, .ref h0), (2, .int iI)])) => ?_)
                          have hl : lv_has _ _ ([(5, .int mo), (4, .int r107), (3, .int (nI K5)), (0, .ref h0), (2, .int iI), (7, .int (nI 0))]) := lv_sub hl [3, 1, 4, 5, 6, 0] rfl
                          refine (fun (loop : ∀ (n9 : Nat) (k7 : Nat) (tb : Nat → Int32) (H : Heap) (locs : List Loc) (ls : Array Slot), (k7 ≤ K5) → (∀ j, j < k7 → tb j = nI (tuK (bI (nI nn)) (tuOf fo j))) →  (K5 < k7 + n9) → va_P (dC, dI) vwCl (WR a k h0 (fT vi 0 0) vj (fT (fT (fT vF 104 gm) 105 fo) 106 tb) vG) H → va_D A (WR a k h0 (fT vi 0 0) vj (fT (fT (fT vF 104 gm) 105 fo) 106 tb) vG) → va_S A s.heap H locs → lv_has ls 8 [(5, .int mo), (4, .int r107), (3, .int (nI K5)), (0, .ref h0), (2, .int iI), (7, .int (nI k7))] → W p l e _ s m _ below meth c H locs 0 0 _ (F0 m 138 ls [])) => loop (K5 + 1) 0 tbq _ _ _ (by omega) (fun j h => absurd h (by omega)) (by omega) hP hD hS hl) ?_
                          intro n9
                          induction n9 with
                          | zero => intro k7 tb H locs ls hk7 htb hf9; exact False.elim (by omega)
                          | succ n9 ih138_3 =>
                            intro k7 tb H locs ls hk7 htb hf138_3 hP hD hS hl
                            refine lv_iload hx hb dX12_tour_138 (lv_at hl 5 rfl) ?_
                            refine lv_iload_n hx hb dX12_tour_140 rfl (lv_at hl 2 rfl) ?_
                            refine lv_icmp_ge (tgt := 169) hx hb dX12_tour_141 (by decide) (fun c_141 => ?_) (fun c_141 => ?_)
                            · have t_141 : ((k7 : Nat) : Int) ≥ ((K5 : Nat) : Int) := toI_ge c_141 (nI_toInt (by omega)) (nI_toInt (by omega))
                              have hl : lv_has _ _ ([(5, .int mo), (4, .int r107), (3, .int (nI K5)), (0, .ref h0), (2, .int iI)]) := lv_sub hl [0, 1, 2, 3, 4] rfl
                              exact join1 _ _ _ _ ⟨r107, tb, tuH.less hPP (by omega) hV hHb (f107_0.resolve_left (fun h => t_115 h.1)).2.1 (by (have h9 := f107_0.resolve_left (fun h => t_115 h.1)); omega) (Or.inr (by omega)) (fun j hj => by rw [htb j (by omega), nI_toInt (by (have h9 := tuK_lt (bI (nI nn)) (tuOf fo j)); omega)]), rfl, hP, hD, hS, hl⟩
                            · have t_141 : ¬ ((k7 : Nat) : Int) ≥ ((K5 : Nat) : Int) := toI_nge c_141 (nI_toInt (by omega)) (nI_toInt (by omega))
                              refine lv_aload_n hx hb dX12_tour_144 rfl (lv_at hl 3 rfl) ?_
                              refine va_get (D := (dC, dI)) (ci := 12) (v := .ref (a 106)) (C := RX12) (T := TX12) (N := 163) (fs := fM (vS a (fT vi 0 0) vj)) hx hb hts iwsRX12_tour_in12 hown hK hP 0 rfl rfl 162 (by decide) (hts (.fieldLink RX12 345 "OptimaWorksModel" "tourBest" "[I") (by decide +kernel)) (fun _ h9 => h9) rfl dX12_tour_145 ?_
                              refine lv_iload hx hb dX12_tour_148 (lv_at hl 5 rfl) ?_
                              refine lv_aload_n hx hb dX12_tour_150 rfl (lv_at hl 3 rfl) ?_
                              refine va_get (D := (dC, dI)) (ci := 12) (v := .ref (a 104)) (C := RX12) (T := TX12) (N := 163) (fs := fM (vS a (fT vi 0 0) vj)) hx hb hts iwsRX12_tour_in12 hown hK hP 0 rfl rfl 160 (by decide) (hts (.fieldLink RX12 339 "OptimaWorksModel" "member1" "[I") (by decide +kernel)) (fun _ h9 => h9) rfl dX12_tour_151 ?_
                              refine lv_aload_n hx hb dX12_tour_154 rfl (lv_at hl 3 rfl) ?_
                              refine va_get (D := (dC, dI)) (ci := 12) (v := .ref (a 105)) (C := RX12) (T := TX12) (N := 163) (fs := fM (vS a (fT vi 0 0) vj)) hx hb hts iwsRX12_tour_in12 hown hK hP 0 rfl rfl 161 (by decide) (hts (.fieldLink RX12 342 "OptimaWorksModel" "order" "[I") (by decide +kernel)) (fun _ h9 => h9) rfl dX12_tour_155 ?_
                              refine lv_iload hx hb dX12_tour_158 (lv_at hl 5 rfl) ?_
                              refine va_iald (cA := k 105) (n := 8) (f := fo) hx hb hK hP 106 105 (WR_get 105 (by decide)) (TR_get 105 (by decide)) (vp_in_nI (show k7 < 8 by omega) (by omega)) dX12_tour_160 ?_
                              refine lv_topi (fun y3 hy3 => ?_)
                              obtain rfl : (fo k7) = y3 := (hy3.trans (by rw [nI_clamp (by omega)])).symm
                              refine va_iald (cA := k 104) (n := 8) (f := gm) hx hb hK hP 105 104 (WR_get 104 (by decide)) (TR_get 104 (by decide)) (vp_in_iff.mpr (by have h9 := hBo k7 (by omega); omega)) dX12_tour_161 ?_
                              refine lv_topi (fun y4 hy4 => ?_)
                              obtain rfl : (nI (tuK (bI (nI nn)) (tuOf fo k7))) = y4 := (hy4.trans (hgm (fo k7).toInt.toNat (by have h9 := hRf k7 (by omega); have h8 := hBo k7 (by omega); omega))).symm
                              refine va_iast (cA := k 106) (n := 8) (f := tb) hx hb hK hP hD hS 107 106 (WR_get 106 (by decide)) (TR_get 106 (by decide)) (vp_in_nI (show k7 < 8 by omega) (by omega)) dX12_tour_162 (fun H locs hP hD hS => ?_)
                              have e9 : fT (fT (fT vF 104 gm) 105 fo) 106 (upd tb ((nI k7)).toNatClampNeg (nI (tuK (bI (nI nn)) (tuOf fo k7)))) = fT (fT (fT (fT vF 104 gm) 105 fo) 106 tb) 106 (upd tb ((nI k7)).toNatClampNeg (nI (tuK (bI (nI nn)) (tuOf fo k7)))) := (fT_sm _ _ _ _).symm
                              have hP : va_P (dC, dI) vwCl (WR a k h0 (fT vi 0 0) vj (fT (fT (fT vF 104 gm) 105 fo) 106 (upd tb ((nI k7)).toNatClampNeg (nI (tuK (bI (nI nn)) (tuOf fo k7))))) vG) H := by rw [e9, ← WR_F 106 (by decide) _ rfl]; exact hP
                              have hD : va_D A (WR a k h0 (fT vi 0 0) vj (fT (fT (fT vF 104 gm) 105 fo) 106 (upd tb ((nI k7)).toNatClampNeg (nI (tuK (bI (nI nn)) (tuOf fo k7))))) vG) := by rw [e9, ← WR_F 106 (by decide) _ rfl]; exact hD
                              clear e9
                              refine lv_iinc (v := (nI (k7 + 1))) hx hb dX12_tour_163 hl (k := 5) rfl (nI_add k7 1) (by decide) rfl (fun ls (hl : lv_has ls _ ([(7, .int (nI (k7 + 1))), (5, .int mo), (4, .int r107), (3, .int (nI K5)), (0, .ref h0), (2, .int iI)])) => ?_)
                              refine lv_goto (tgt := 138) hx hb dX12_tour_166 (by decide) ?_
                              have hl : lv_has _ _ ([(5, .int mo), (4, .int r107), (3, .int (nI K5)), (0, .ref h0), (2, .int iI), (7, .int (nI (k7 + 1)))]) := lv_sub hl [1, 2, 3, 4, 5, 0] rfl
                              exact ih138_3 (k7 + 1) (upd tb ((nI k7)).toNatClampNeg (nI (tuK (bI (nI nn)) (tuOf fo k7)))) _ _ _ (by omega) (fun j hj => by rw [upd_at (by omega)]; by_cases e9 : j = k7; (rw [if_pos e9, e9]); (rw [if_neg e9]; exact htb j (by omega))) (by omega) hP hD hS hl
                  · rintro H locs ls stk ⟨be2, tb2, hH2, rfl, hP, hD, hS, hl⟩
                    refine lv_aload_n hx hb dX12_tour_169 rfl (lv_at hl 3 rfl) ?_
                    refine lv_iload_n hx hb dX12_tour_170 rfl (lv_at hl 2 rfl) ?_
                    have hFc := allFree hD hS hA
                    refine va_calli (va_runV (As := [.int (nI K5)]) (rest := []) ⟨hx, hb, hml, hown, hts⟩ (r_X12_nextOrder l dC dI a k h0 (fT vi 0 0) vj (fT (fT (fT vF 104 gm) 105 fo) 106 tb2) vG K5 (by first | assumption | decide | omega | rfl) (by first | assumption | decide | omega | rfl) (hBo) (hIo) (hRf) H.size) (cwV 1 hts gwsRX12_tour_2 rfl rfl rfl hd_yX12_nextOrder_RX12 (by decide +kernel)) (fz_pre (va_recv hK hP (ci := 12) (q0 := 0) rfl rfl) hP hK hD) rfl rfl hl.1 rfl (lv_room (Nat.le_of_ble_eq_true rfl)) dX12_tour_171 (by decide +kernel)) hS (fun q _ h => hFc q h) hFc (fun r171 u t9_ H locs ht hvm hw9 hB9 hz1 hk1 hS => ?_)
                    obtain ⟨g171, hwit171⟩ : ∃ w9, w9 = u := ⟨u, rfl⟩
                    subst hwit171
                    have hP : va_P (dC, dI) vwCl (WR a k h0 (fT vi 0 0) vj (fT (fT (fT (fT vF 104 gm) 105 fo) 106 tb2) 105 g171) vG) H := fz_P ht hB9.1
                    have hD : va_D A (WR a k h0 (fT vi 0 0) vj (fT (fT (fT (fT vF 104 gm) 105 fo) 106 tb2) 105 g171) vG) := hB9.2.weaken (fun _ q _ h => hFc q.1 h)
                    have e9 : fT (fT (fT vF 104 gm) 105 g171) 106 tb2 = fT (fT (fT (fT vF 104 gm) 105 fo) 106 tb2) 105 g171 := ((fT_sw _ _ _ (Nat.ne_of_beq_eq_false rfl)).trans (congrArg (fun g9 => fT g9 106 tb2) (fT_sm _ _ _ _))).symm
                    rw [← e9] at hP hD
                    clear e9
                    have hP : va_P (dC, dI) vwCl (WR a k h0 (fT vi 0 0) vj (fT (fT (fT vF 104 gm) 105 g171) 106 tb2) vG) H := hP
                    have hD : va_D A (WR a k h0 (fT vi 0 0) vj (fT (fT (fT vF 104 gm) 105 g171) 106 tb2) vG) := hD
                    rcases hw9 with ⟨rfl, f171_0, f171_1, f171_2, f171_3, f171_4⟩ | ⟨rfl, f171_0, f171_1, f171_2, f171_3, f171_4, f171_5⟩
                    · have f171_3 : g171 = fo := f171_3
                      have f171_4 : ∀ t, 0 < t → t + 1 < K5 → tuOf fo (t + 1) < tuOf fo t := f171_4
                      refine lv_istore hx hb dX12_tour_174 hl (by decide) rfl (fun ls (hl : lv_has ls _ ([(5, .int 0), (4, .int be2), (3, .int (nI K5)), (0, .ref h0), (2, .int iI)])) => ?_)
                      refine lv_goto (tgt := 100) hx hb dX12_tour_176 (by decide) ?_
                      have hl : lv_has _ _ ([(5, .int 0), (4, .int be2), (3, .int (nI K5)), (0, .ref h0), (2, .int iI)]) := lv_sub hl [0, 1, 2, 3, 4] rfl
                      exact ih100_1 be2 0 g171 tb2 _ _ _ (f171_0) (f171_1) (f171_2) (by rw [f171_3]; exact hf0) (Or.inl ⟨rfl, tuH.last (by omega) hV f171_4 hH2⟩) (by (have h8 := hfx.resolve_left (fun h => c_102 h.1)); (have h7 := Vo_rng hBo); exact Or.inl ⟨rfl, by omega⟩) hP hD hS hl
                    · have f171_3 : ∃ k0, k0 < 8 ∧ (∀ i, i < k0 → g171 i = fo i) ∧ (fo k0).toInt < (g171 k0).toInt := f171_3
                      have f171_4 : ∃ k, 0 < k ∧ tuZ K5 k (tuOf fo) (tuOf g171) := f171_4
                      have f171_5 : g171 0 = fo 0 := f171_5
                      obtain ⟨k9, hk9, hk8, hk7⟩ := f171_3
                      have hVl := Vo_lt hBo f171_0 hk9 hk8 hk7
                      have hVr2 := Vo_rng f171_0
                      refine lv_istore hx hb dX12_tour_174 hl (by decide) rfl (fun ls (hl : lv_has ls _ ([(5, .int 1), (4, .int be2), (3, .int (nI K5)), (0, .ref h0), (2, .int iI)])) => ?_)
                      refine lv_goto (tgt := 100) hx hb dX12_tour_176 (by decide) ?_
                      have hl : lv_has _ _ ([(5, .int 1), (4, .int be2), (3, .int (nI K5)), (0, .ref h0), (2, .int iI)]) := lv_sub hl [0, 1, 2, 3, 4] rfl
                      exact ih100_1 be2 1 g171 tb2 _ _ _ (f171_0) (f171_1) (f171_2) (by rw [f171_5]; exact hf0) (Or.inr ⟨by decide, by obtain ⟨kz, hz0, hz1, hz2, hz3, hz4, hz5, hz6⟩ := f171_4; exact tuH.next (by omega) hV (tuOf_v f171_0 (by omega) f171_1 f171_2 (by rw [f171_5]; exact hf0)) hz1 hz2 hz3 hz4 hz5 hz6 hH2⟩) (by (have h8 := hfx.resolve_left (fun h => c_102 h.1)); exact Or.inr (by omega)) hP hD hS hl
            · have t_55 : ¬ ((i5 : Nat) : Int) ≥ 12 := toI_nge c_55 (nI_toInt (by omega)) (by decide)
              refine lv_iload_n hx hb dX12_tour_58 rfl (lv_at hl 3 rfl) ?_
              refine lv_iload hx hb dX12_tour_59 (lv_at hl 0 rfl) ?_
              refine lv_ishr hx hb dX12_tour_61 ?_
              refine lv_iconst (v := 1) hx hb dX12_tour_62 (by decide) ?_
              refine lv_iand hx hb dX12_tour_63 ?_
              refine lv_topi (fun y5 hy5 => ?_)
              obtain rfl : (nI (nn / 2 ^ i5 % 2)) = y5 := (hy5.trans (shr_bit (by omega) (by omega))).symm
              refine lv_if_ne (tgt := 70) hx hb dX12_tour_64 (by decide) (fun c_64 => ?_) (fun c_64 => ?_)
              · have t_64 : (((nn / 2 ^ i5 % 2) : Nat) : Int) ≠ 0 := toI_ne c_64 (nI_toInt (by omega)) (by decide)
                have hup := cnt_up (n := nn) (show i5 + 1 ≤ 12 by omega)
                rw [cnt_succ] at hup
                refine lv_aload_n hx hb dX12_tour_70 rfl (lv_at hl 2 rfl) ?_
                refine va_get (D := (dC, dI)) (ci := 12) (v := .ref (a 104)) (C := RX12) (T := TX12) (N := 163) (fs := fM (vS a (fT vi 0 0) vj)) hx hb hts iwsRX12_tour_in12 hown hK hP 0 rfl rfl 160 (by decide) (hts (.fieldLink RX12 339 "OptimaWorksModel" "member1" "[I") (by decide +kernel)) (fun _ h9 => h9) rfl dX12_tour_71 ?_
                refine lv_iload_n hx hb dX12_tour_74 rfl (lv_at hl 1 rfl) ?_
                refine lv_iload hx hb dX12_tour_75 (lv_at hl 0 rfl) ?_
                refine va_iast (cA := k 104) (n := 8) (f := gm) hx hb hK hP hD hS 105 104 (WR_get 104 (by decide)) (TR_get 104 (by decide)) (vp_in_nI (show K5 < 8 by omega) (by omega)) dX12_tour_77 (fun H locs hP hD hS => ?_)
                have e9 : fT (fT vF 104 (upd gm ((nI K5)).toNatClampNeg (nI i5))) 105 go = fT (fT (fT vF 104 gm) 105 go) 104 (upd gm ((nI K5)).toNatClampNeg (nI i5)) := ((fT_sw _ _ _ (Nat.ne_of_beq_eq_false rfl)).trans (congrArg (fun g9 => fT g9 105 go) (fT_sm _ _ _ _))).symm
                have hP : va_P (dC, dI) vwCl (WR a k h0 (fT vi 0 0) vj (fT (fT vF 104 (upd gm ((nI K5)).toNatClampNeg (nI i5))) 105 go) vG) H := by rw [e9, ← WR_F 104 (by decide) _ rfl]; exact hP
                have hD : va_D A (WR a k h0 (fT vi 0 0) vj (fT (fT vF 104 (upd gm ((nI K5)).toNatClampNeg (nI i5))) 105 go) vG) := by rw [e9, ← WR_F 104 (by decide) _ rfl]; exact hD
                clear e9
                refine lv_aload_n hx hb dX12_tour_78 rfl (lv_at hl 2 rfl) ?_
                refine va_get (D := (dC, dI)) (ci := 12) (v := .ref (a 105)) (C := RX12) (T := TX12) (N := 163) (fs := fM (vS a (fT vi 0 0) vj)) hx hb hts iwsRX12_tour_in12 hown hK hP 0 rfl rfl 161 (by decide) (hts (.fieldLink RX12 342 "OptimaWorksModel" "order" "[I") (by decide +kernel)) (fun _ h9 => h9) rfl dX12_tour_79 ?_
                refine lv_iload_n hx hb dX12_tour_82 rfl (lv_at hl 1 rfl) ?_
                refine lv_iload_n hx hb dX12_tour_83 rfl (lv_at hl 1 rfl) ?_
                refine va_iast (cA := k 105) (n := 8) (f := go) hx hb hK hP hD hS 106 105 (WR_get 105 (by decide)) (TR_get 105 (by decide)) (vp_in_nI (show K5 < 8 by omega) (by omega)) dX12_tour_84 (fun H locs hP hD hS => ?_)
                have e9 : fT (fT vF 104 (upd gm ((nI K5)).toNatClampNeg (nI i5))) 105 (upd go ((nI K5)).toNatClampNeg (nI K5)) = fT (fT (fT vF 104 (upd gm ((nI K5)).toNatClampNeg (nI i5))) 105 go) 105 (upd go ((nI K5)).toNatClampNeg (nI K5)) := (fT_sm _ _ _ _).symm
                have hP : va_P (dC, dI) vwCl (WR a k h0 (fT vi 0 0) vj (fT (fT vF 104 (upd gm ((nI K5)).toNatClampNeg (nI i5))) 105 (upd go ((nI K5)).toNatClampNeg (nI K5))) vG) H := by rw [e9, ← WR_F 105 (by decide) _ rfl]; exact hP
                have hD : va_D A (WR a k h0 (fT vi 0 0) vj (fT (fT vF 104 (upd gm ((nI K5)).toNatClampNeg (nI i5))) 105 (upd go ((nI K5)).toNatClampNeg (nI K5))) vG) := by rw [e9, ← WR_F 105 (by decide) _ rfl]; exact hD
                clear e9
                refine lv_iinc (v := (nI (K5 + 1))) hx hb dX12_tour_85 hl (k := 1) rfl (nI_add K5 1) (by decide) rfl (fun ls (hl : lv_has ls _ ([(3, .int (nI (K5 + 1))), (4, .int (nI i5)), (0, .ref h0), (1, .int (nI nn)), (2, .int iI)])) => ?_)
                refine lv_iinc (v := (nI (i5 + 1))) hx hb dX12_tour_88 hl (k := 1) rfl (nI_add i5 1) (by decide) rfl (fun ls (hl : lv_has ls _ ([(4, .int (nI (i5 + 1))), (3, .int (nI (K5 + 1))), (0, .ref h0), (1, .int (nI nn)), (2, .int iI)])) => ?_)
                refine lv_goto (tgt := 51) hx hb dX12_tour_91 (by decide) ?_
                have hl : lv_has _ _ ([(4, .int (nI (i5 + 1))), (3, .int (nI (K5 + 1))), (0, .ref h0), (1, .int (nI nn)), (2, .int iI)]) := lv_sub hl [0, 1, 2, 3, 4] rfl
                exact ih51 (i5 + 1) (K5 + 1) (upd gm ((nI K5)).toNatClampNeg (nI i5)) (upd go ((nI K5)).toNatClampNeg (nI K5)) _ _ _ (by omega) (by first | exact hB0 | exact fun j hj => by rw [upd_at (by omega)]; split; (rw [nI_toInt (by omega)]; omega); exact hB0 j hj) (by rw [cnt_succ]; omega) (by first | exact hgo | exact fun j hj => by rw [upd_at (by omega)]; by_cases e9 : j = K5; (rw [if_pos e9, e9]); (rw [if_neg e9]; exact hgo j (by omega))) (by first | exact hgm | exact tuMem (by omega) (bI_yes (by omega) t_64) (by rw [hKc]; exact cnt_B (by omega)) (by omega) hgm) (by omega) hP hD hS hl
              · have t_64 : (((nn / 2 ^ i5 % 2) : Nat) : Int) = 0 := toI_nne c_64 (nI_toInt (by omega)) (by decide)
                refine lv_goto (tgt := 88) hx hb dX12_tour_67 (by decide) ?_
                refine lv_iinc (v := (nI (i5 + 1))) hx hb dX12_tour_88 hl (k := 0) rfl (nI_add i5 1) (by decide) rfl (fun ls (hl : lv_has ls _ ([(4, .int (nI (i5 + 1))), (3, .int (nI K5)), (0, .ref h0), (1, .int (nI nn)), (2, .int iI)])) => ?_)
                refine lv_goto (tgt := 51) hx hb dX12_tour_91 (by decide) ?_
                have hl : lv_has _ _ ([(4, .int (nI (i5 + 1))), (3, .int (nI K5)), (0, .ref h0), (1, .int (nI nn)), (2, .int iI)]) := lv_sub hl [0, 1, 2, 3, 4] rfl
                exact ih51 (i5 + 1) K5 gm go _ _ _ (by omega) (by first | exact hB0 | exact fun j hj => by rw [upd_at (by omega)]; split; (rw [nI_toInt (by omega)]; omega); exact hB0 j hj) (by rw [cnt_succ]; omega) (by first | exact hgo | exact fun j hj => by rw [upd_at (by omega)]; by_cases e9 : j = K5; (rw [if_pos e9, e9]); (rw [if_neg e9]; exact hgo j (by omega))) (by first | exact hgm | exact tuMem (by omega) (bI_yes (by omega) t_64) (by rw [hKc]; exact cnt_B (by omega)) (by omega) hgm) (by omega) hP hD hS hl
        · have t_26 : ¬ (((cnt nn 12) : Nat) : Int) ≤ 8 := toI_nle c_26 (nI_toInt (by omega)) (by decide)
          refine lv_iconst (v := 1) hx hb dX12_tour_29 (by decide) ?_
          refine lv_goto (tgt := 34) hx hb dX12_tour_30 (by decide) ?_
          refine va_put (D := (dC, dI)) (ci := 12) (v := .int 1) (ty := .int) (C := RX12) (T := TX12) (N := 163) (fs := fM (vS a vi vj)) hx hb hts iwsRX12_tour_in12 tyX12 tyX12_ok nmX12 hown hK hP hD hS 0 rfl rfl 0 (by decide) (hts (.fieldLink RX12 348 "OptimaWorksModel" "thrown" "I") (by decide +kernel)) (fun _ h9 => h9) rfl (by decide +kernel) rfl rfl (Nat.le_of_ble_eq_true rfl) dX12_tour_34 (fun H locs hP hD hS => ?_)
          have hP : va_P (dC, dI) vwCl (WR a k h0 (fT vi 0 1) vj vF vG) H := by rw [← WR_i 0 _ rfl]; exact hP
          have hD : va_D A (WR a k h0 (fT vi 0 1) vj vF vG) := by rw [← WR_i 0 _ rfl]; exact hD
          refine lv_aload_n hx hb dX12_tour_37 rfl (lv_at hl 0 rfl) ?_
          refine va_get (D := (dC, dI)) (ci := 12) (v := .int 1) (C := RX12) (T := TX12) (N := 163) (fs := fM (vS a (fT vi 0 1) vj)) hx hb hts iwsRX12_tour_in12 hown hK hP 0 rfl rfl 0 (by decide) (hts (.fieldLink RX12 348 "OptimaWorksModel" "thrown" "I") (by decide +kernel)) (fun _ h9 => h9) rfl dX12_tour_38 ?_
          refine lv_if_le (tgt := 46) hx hb dX12_tour_41 (by decide) (fun c9 => absurd c9 (by decide)) (fun _ => ?_)
          refine lv_iconst (v := 0) hx hb dX12_tour_44 (by decide) ?_
          refine W.widen (k := 0) (n := 0) (by decide +kernel) (by decide +kernel) ?_
          have e9 : fT (fT (fT vF 104 (vF 104)) 105 (vF 105)) 106 (vF 106) = vF := (fT_id _ _ ((fT_ne _ _ (Nat.ne_of_beq_eq_false rfl)).trans (fT_ne _ _ (Nat.ne_of_beq_eq_false rfl)))).trans ((fT_id _ _ (fT_ne _ _ (Nat.ne_of_beq_eq_false rfl))).trans (fT_id _ _ (rfl)))
          have hP : va_P (dC, dI) vwCl (WR a k h0 (fT vi 0 1) vj (fT (fT (fT vF 104 (vF 104)) 105 (vF 105)) 106 (vF 106)) vG) H := by rw [e9]; exact hP
          have hD : va_D A (WR a k h0 (fT vi 0 1) vj (fT (fT (fT vF 104 (vF 104)) 105 (vF 105)) 106 (vF 106)) vG) := by rw [e9]; exact hD
          clear e9
          exact W.iret (v := 0) hx hb hr (fun t9_ ht hW => ⟨⟨0, (1, (vF 104), (vF 105), (vF 106)), rfl, by (try dsimp only); exact Or.inl ⟨hB9o, rfl, fun h9 => by (have h8 := cnt_B (n := nn) (i := 12) (Nat.le_refl _)); omega⟩, by rw [ht]; exact hP, hD⟩, hS.F ht⟩) hS.2.2 dX12_tour_45
theorem dX12_follows_0 : decode cX12_follows 0 = .ok (.bipush 12, 2) := dk_16 (by decide +kernel)
theorem dX12_follows_2 : decode cX12_follows 2 = .ok (.istore_n 2, 1) := dk_61 (by decide +kernel)
theorem dX12_follows_3 : decode cX12_follows 3 = .ok (.iconst 0, 1) := dk_3 (by decide +kernel)
theorem dX12_follows_4 : decode cX12_follows 4 = .ok (.istore_n 3, 1) := dk_62 (by decide +kernel)
theorem dX12_follows_5 : decode cX12_follows 5 = .ok (.iload_n 3, 1) := dk_29 (by decide +kernel)
theorem dX12_follows_6 : decode cX12_follows 6 = .ok (.aload_n 0, 1) := dk_42 (by decide +kernel)
theorem dX12_follows_7 : decode cX12_follows 7 = .ok (.getfield 1069, 3) := dk_180 (by decide +kernel)
theorem dX12_follows_10 : decode cX12_follows 10 = .ok (.if_icmp .ge 85, 3) := dk_162 (by decide +kernel)
theorem dX12_follows_13 : decode cX12_follows 13 = .ok (.aload_n 0, 1) := dk_42 (by decide +kernel)
theorem dX12_follows_14 : decode cX12_follows 14 = .ok (.getfield 312, 3) := dk_180 (by decide +kernel)
theorem dX12_follows_17 : decode cX12_follows 17 = .ok (.iload_n 3, 1) := dk_29 (by decide +kernel)
theorem dX12_follows_18 : decode cX12_follows 18 = .ok (.iaload, 1) := dk_46 (by decide +kernel)
theorem dX12_follows_19 : decode cX12_follows 19 = .ok (.iload_n 1, 1) := dk_27 (by decide +kernel)
theorem dX12_follows_20 : decode cX12_follows 20 = .ok (.if_icmp .ne 69, 3) := dk_160 (by decide +kernel)
theorem dX12_follows_23 : decode cX12_follows 23 = .ok (.aload_n 0, 1) := dk_42 (by decide +kernel)
theorem dX12_follows_24 : decode cX12_follows 24 = .ok (.getfield 333, 3) := dk_180 (by decide +kernel)
theorem dX12_follows_27 : decode cX12_follows 27 = .ok (.aload_n 0, 1) := dk_42 (by decide +kernel)
theorem dX12_follows_28 : decode cX12_follows 28 = .ok (.getfield 315, 3) := dk_180 (by decide +kernel)
theorem dX12_follows_31 : decode cX12_follows 31 = .ok (.iload_n 3, 1) := dk_29 (by decide +kernel)
theorem dX12_follows_32 : decode cX12_follows 32 = .ok (.iaload, 1) := dk_46 (by decide +kernel)
theorem dX12_follows_33 : decode cX12_follows 33 = .ok (.iaload, 1) := dk_46 (by decide +kernel)
theorem dX12_follows_34 : decode cX12_follows 34 = .ok (.ldc_w 1072, 3) := dk_19 (by decide +kernel)
theorem dX12_follows_37 : decode cX12_follows 37 = .ok (.if_icmp .eq 52, 3) := dk_159 (by decide +kernel)
theorem dX12_follows_40 : decode cX12_follows 40 = .ok (.aload_n 0, 1) := dk_42 (by decide +kernel)
theorem dX12_follows_41 : decode cX12_follows 41 = .ok (.getfield 333, 3) := dk_180 (by decide +kernel)
theorem dX12_follows_44 : decode cX12_follows 44 = .ok (.aload_n 0, 1) := dk_42 (by decide +kernel)
theorem dX12_follows_45 : decode cX12_follows 45 = .ok (.getfield 315, 3) := dk_180 (by decide +kernel)
theorem dX12_follows_48 : decode cX12_follows 48 = .ok (.iload_n 3, 1) := dk_29 (by decide +kernel)
theorem dX12_follows_49 : decode cX12_follows 49 = .ok (.iaload, 1) := dk_46 (by decide +kernel)
theorem dX12_follows_50 : decode cX12_follows 50 = .ok (.iaload, 1) := dk_46 (by decide +kernel)
theorem dX12_follows_51 : decode cX12_follows 51 = .ok (.bipush 64, 2) := dk_16 (by decide +kernel)
theorem dX12_follows_53 : decode cX12_follows 53 = .ok (.aload_n 0, 1) := dk_42 (by decide +kernel)
theorem dX12_follows_54 : decode cX12_follows 54 = .ok (.getfield 321, 3) := dk_180 (by decide +kernel)
theorem dX12_follows_57 : decode cX12_follows 57 = .ok (.iload_n 3, 1) := dk_29 (by decide +kernel)
theorem dX12_follows_58 : decode cX12_follows 58 = .ok (.iaload, 1) := dk_46 (by decide +kernel)
theorem dX12_follows_59 : decode cX12_follows 59 = .ok (.imul, 1) := dk_104 (by decide +kernel)
theorem dX12_follows_60 : decode cX12_follows 60 = .ok (.iadd, 1) := dk_96 (by decide +kernel)
theorem dX12_follows_61 : decode cX12_follows 61 = .ok (.iconst 1, 1) := dk_4 (by decide +kernel)
theorem dX12_follows_62 : decode cX12_follows 62 = .ok (.iadd, 1) := dk_96 (by decide +kernel)
theorem dX12_follows_63 : decode cX12_follows 63 = .ok (.aload_n 0, 1) := dk_42 (by decide +kernel)
theorem dX12_follows_64 : decode cX12_follows 64 = .ok (.getfield 333, 3) := dk_180 (by decide +kernel)
theorem dX12_follows_67 : decode cX12_follows 67 = .ok (.iload_n 1, 1) := dk_27 (by decide +kernel)
theorem dX12_follows_68 : decode cX12_follows 68 = .ok (.iaload, 1) := dk_46 (by decide +kernel)
theorem dX12_follows_69 : decode cX12_follows 69 = .ok (.if_icmp .ne 20, 3) := dk_160 (by decide +kernel)
theorem dX12_follows_72 : decode cX12_follows 72 = .ok (.aload_n 0, 1) := dk_42 (by decide +kernel)
theorem dX12_follows_73 : decode cX12_follows 73 = .ok (.getfield 315, 3) := dk_180 (by decide +kernel)
theorem dX12_follows_76 : decode cX12_follows 76 = .ok (.iload_n 3, 1) := dk_29 (by decide +kernel)
theorem dX12_follows_77 : decode cX12_follows 77 = .ok (.iaload, 1) := dk_46 (by decide +kernel)
theorem dX12_follows_78 : decode cX12_follows 78 = .ok (.iload_n 2, 1) := dk_28 (by decide +kernel)
theorem dX12_follows_79 : decode cX12_follows 79 = .ok (.if_icmp .ge 10, 3) := dk_162 (by decide +kernel)
theorem dX12_follows_82 : decode cX12_follows 82 = .ok (.aload_n 0, 1) := dk_42 (by decide +kernel)
theorem dX12_follows_83 : decode cX12_follows 83 = .ok (.getfield 315, 3) := dk_180 (by decide +kernel)
theorem dX12_follows_86 : decode cX12_follows 86 = .ok (.iload_n 3, 1) := dk_29 (by decide +kernel)
theorem dX12_follows_87 : decode cX12_follows 87 = .ok (.iaload, 1) := dk_46 (by decide +kernel)
theorem dX12_follows_88 : decode cX12_follows 88 = .ok (.istore_n 2, 1) := dk_61 (by decide +kernel)
theorem dX12_follows_89 : decode cX12_follows 89 = .ok (.iinc 3 1, 3) := dk_132 (by decide +kernel)
theorem dX12_follows_92 : decode cX12_follows 92 = .ok (.goto (-87), 3) := dk_167 (by decide +kernel)
theorem dX12_follows_95 : decode cX12_follows 95 = .ok (.iload_n 2, 1) := dk_28 (by decide +kernel)
theorem dX12_follows_96 : decode cX12_follows 96 = .ok (.ireturn, 1) := dk_172 (by decide +kernel)
def wsRX12_follows : List Cond := .code yX12_follows cX12_follows 4 (some .int) :: ([.fieldLink RX12 1069 "OptimaWorksModel" "arcs" "I", .fieldLink RX12 312 "OptimaWorksModel" "arcFrom" "[I", .fieldLink RX12 333 "OptimaWorksModel" "far" "[I", .fieldLink RX12 315 "OptimaWorksModel" "arcTo" "[I", .constant RX12 1072 536870912, .fieldLink RX12 321 "OptimaWorksModel" "arcCost" "[I"] ++ wsX120)
theorem iwsRX12_follows_in12 : ∀ w ∈ wsX120, w ∈ wsRX12_follows := fun _ h => List.mem_cons_of_mem _ (List.mem_append_right _ h)
theorem gdwsRX12_follows : wsRX12_follows.all goodWord = true := gdC rfl (gdA (by decide +kernel : ([.fieldLink RX12 1069 "OptimaWorksModel" "arcs" "I", .fieldLink RX12 312 "OptimaWorksModel" "arcFrom" "[I", .fieldLink RX12 333 "OptimaWorksModel" "far" "[I", .fieldLink RX12 315 "OptimaWorksModel" "arcTo" "[I", .constant RX12 1072 536870912, .fieldLink RX12 321 "OptimaWorksModel" "arcCost" "[I"] : List Cond).all goodWord = true) gdwsX120)
set_option maxHeartbeats 4000000 in
set_option maxRecDepth 100000 in
/-- follows(n) -/
theorem r_X12_follows (l : Launch) (dC : Nat → ClassId) (dI : Nat → Nat → Nat) (a : Nat → Nat) (k : Nat → ClassId) (h0 : Nat) (vi : Nat → Int32) (vj : Nat → Int64) (vF : Nat → Nat → Int32) (vG : Nat → Nat → Int64) (ar : Nat) (nN : Nat) (tN : Nat) (har : vi 150 = nI ar) (har40 : ar ≤ 40) (hAr : ArO (vF 95) (vF 96) (vF 97) (vF 98) ar) (hnN : nN < 12) (htN9 : tN < 12) (hnt : nN ≠ tN) (hnl : vF 102 nN ≠ 536870912) (hFa : FaO (vF 95) (vF 96) (vF 98) ar tN (vF 102)) (hFc : FaC (vF 95) (vF 96) (vF 98) ar (vF 102)) (sz : Nat) : Met l yX12_follows wsRX12_follows ({ frames := 0, cells := 0, slots := 0, locals := 0 }) (va_Pc [.ref h0, .int (nI nN)] (fun U => U.heap.size = sz ∧ va_P (dC, dI) vwCl (WR a k h0 vi vj vF vG) U.heap ∧ va_K (dC, dI) vwCl (tX12 k) U ∧ va_D (fun _ => True) (WR a k h0 vi vj vF vG))) (va_Qi (fun (r : Int32) (u : Nat) => r = (nI u) ∧ (u < 12) ∧ (vF 102 u ≠ 536870912) ∧ (pNx (((ar : Nat) : Int), vF 95, vF 96, vF 97, vF 98) (w64 (((ar : Nat) : Int), vF 95, vF 96, vF 97, vF 98)) (fun n => (vF 102 n).toInt) nN u)) (fun (u : Nat) t => va_P (dC, dI) vwCl (WR a k h0 vi vj vF vG) t.heap ∧ va_D (va_A (WR a k h0 vi vj vF vG) sz) (WR a k h0 vi vj vF vG)) (va_A (WR a k h0 vi vj vF vG) sz)) 0 0 (va_A (WR a k h0 vi vj vF vG) sz) := by
  refine Met.ofW (cc := cX12_follows) (maxL := 4) (ret := (some .int)) (by decide) rfl ?_
  intro p e s m args below meth c s₁ B hml hv
  obtain ⟨rfl, hsz, hP, hK, hD0⟩ := hv
  have hx := B.exec
  have hb := B.bytes
  have hr := B.returns
  have hts := atoms_spec (ws := wsRX12_follows) B.pre
  have hown : s.vm.findClass RX12 = some m.cls := findClass_of_methodNamed B.named
  have hlocks := B.notSynchronized
  subst hsz
  have hD := hD0.self (sz := s.heap.size)
  generalize hAe : va_A (WR a k h0 vi vj vF vG) s.heap.size = A at hD ⊢
  have hA : ∀ q : Nat, s.heap.size ≤ q → A q := fun q h => by rw [← hAe]; exact Or.inr h
  have hS : va_S A s.heap s.heap [] := va_S.rf
  have hl := lv_entry ([.ref h0, .int (nI nN)]) (n := 4) (Nat.le_of_ble_eq_true rfl)
  rw [lg_entry_eq]
  generalize (lg_sl ([.ref h0, .int (nI nN)]) ++ List.replicate (4 - (lg_sl ([.ref h0, .int (nI nN)])).length) Slot.unset).toArray = ls at hl ⊢
  have hl : lv_has ls 4 [(0, .ref h0), (1, .int (nI nN))] := hl
  obtain ⟨a0, z0, ha0, hz0, e0f, e0t, h0l, h0g⟩ := (hFa.2 nN hnN).resolve_left hnl |>.2.2.resolve_left hnt
  have h0c := hFc a0 nN z0 ha0 hnN hz0 e0f e0t h0l
  have h0e : (vF 102 z0).toInt + 64 * (vF 98 a0).toInt + 1 = (vF 102 nN).toInt := by omega
  refine lv_bipush (v := 12) hx hb dX12_follows_0 (by decide) ?_
  refine lv_istore_n hx hb dX12_follows_2 rfl hl (by decide) rfl (fun ls (hl : lv_has ls _ ([(2, .int 12), (0, .ref h0), (1, .int (nI nN))])) => ?_)
  refine lv_iconst (v := 0) hx hb dX12_follows_3 (by decide) ?_
  refine lv_istore_n hx hb dX12_follows_4 rfl hl (by decide) rfl (fun ls (hl : lv_has ls _ ([(3, .int 0), (2, .int 12), (0, .ref h0), (1, .int (nI nN))])) => ?_)
  have hl : lv_has _ _ ([(0, .ref h0), (1, .int (nI nN)), (2, .int (nI 12)), (3, .int (nI 0))]) := lv_sub hl [2, 3, 1, 0] rfl
  refine (fun (loop : ∀ (n9 : Nat) (k5 : Nat) (bb : Nat) (H : Heap) (locs : List Loc) (ls : Array Slot), (k5 ≤ ar) → (bb ≤ 12 ∧ (bb < 12 → vF 102 bb ≠ 536870912) ∧ (a0 < k5 → bb < 12)) → (pFo (((ar : Nat) : Int), vF 95, vF 96, vF 97, vF 98) (w64 (((ar : Nat) : Int), vF 95, vF 96, vF 97, vF 98)) (fun n => (vF 102 n).toInt) nN 12 k5 ((bb : Nat) : Int)) →  (ar < k5 + n9) → va_P (dC, dI) vwCl (WR a k h0 vi vj vF vG) H → va_D A (WR a k h0 vi vj vF vG) → va_S A s.heap H locs → lv_has ls 4 [(0, .ref h0), (1, .int (nI nN)), (2, .int (nI bb)), (3, .int (nI k5))] → W p l e _ s m _ below meth c H locs 0 0 _ (F0 m 5 ls [])) => loop (ar + 1) 0 12 _ _ _ (by omega) (⟨by omega, fun h9 => absurd h9 (by omega), fun h9 => absurd h9 (by omega)⟩) (pFo.start) (by omega) hP hD hS hl) ?_
  intro n9
  induction n9 with
  | zero => intro k5 bb H locs ls hk5 hbb hFo hf9; exact False.elim (by omega)
  | succ n9 ih5 =>
    intro k5 bb H locs ls hk5 hbb hFo hf5 hP hD hS hl
    refine lv_iload_n hx hb dX12_follows_5 rfl (lv_at hl 3 rfl) ?_
    refine lv_aload_n hx hb dX12_follows_6 rfl (lv_at hl 0 rfl) ?_
    refine va_get (D := (dC, dI)) (ci := 12) (v := .int (vi 150)) (C := RX12) (T := TX12) (N := 163) (fs := fM (vS a vi vj)) hx hb hts iwsRX12_follows_in12 hown hK hP 0 rfl rfl 150 (by decide) (hts (.fieldLink RX12 1069 "OptimaWorksModel" "arcs" "I") (by decide +kernel)) (fun _ h9 => h9) rfl dX12_follows_7 ?_
    refine lv_topi (fun y1 hy1 => ?_)
    obtain rfl : (nI ar) = y1 := (hy1.trans (har)).symm
    refine lv_icmp_ge (tgt := 95) hx hb dX12_follows_10 (by decide) (fun c_10 => ?_) (fun c_10 => ?_)
    · have t_10 : ((k5 : Nat) : Int) ≥ ((ar : Nat) : Int) := toI_ge c_10 (nI_toInt (by omega)) (nI_toInt (by omega))
      refine lv_iload_n hx hb dX12_follows_95 rfl (lv_at hl 2 rfl) ?_
      refine W.widen (k := 0) (n := 0) (by decide +kernel) (by decide +kernel) ?_
      exact W.iret (v := (nI bb)) hx hb hr (fun t9_ ht hW => ⟨⟨(nI bb), bb, rfl, by (try dsimp only); exact ⟨rfl, hbb.2.2 (by omega), hbb.2.1 (hbb.2.2 (by omega)), (pFo.done hFo (by dsimp only; omega) ((FaO.dis hAr htN9 hFa hFc).some hnN hnt (show (vF 102 nN).toInt < 536870912 from by have h8 := (hFa.bd hnN).2.2 hnl; omega))).1⟩, by rw [ht]; exact hP, hD⟩, hS.F ht⟩) hS.2.2 dX12_follows_96
    · have t_10 : ¬ ((k5 : Nat) : Int) ≥ ((ar : Nat) : Int) := toI_nge c_10 (nI_toInt (by omega)) (nI_toInt (by omega))
      obtain ⟨x5, yB, hx5, hyB, hxy5, ex5, ey5, hr5, hc5⟩ := hAr k5 (by omega)
      have hby := hFa.bd hyB
      refine lv_aload_n hx hb dX12_follows_13 rfl (lv_at hl 0 rfl) ?_
      refine va_get (D := (dC, dI)) (ci := 12) (v := .ref (a 95)) (C := RX12) (T := TX12) (N := 163) (fs := fM (vS a vi vj)) hx hb hts iwsRX12_follows_in12 hown hK hP 0 rfl rfl 151 (by decide) (hts (.fieldLink RX12 312 "OptimaWorksModel" "arcFrom" "[I") (by decide +kernel)) (fun _ h9 => h9) rfl dX12_follows_14 ?_
      refine lv_iload_n hx hb dX12_follows_17 rfl (lv_at hl 3 rfl) ?_
      refine va_iald (cA := k 95) (n := 40) (f := (vF 95)) hx hb hK hP 96 95 (WR_get 95 (by decide)) (TR_get 95 (by decide)) (vp_in_nI (show k5 < 40 by omega) (by omega)) dX12_follows_18 ?_
      refine lv_topi (fun y2 hy2 => ?_)
      obtain rfl : ((vF 95) k5) = y2 := (hy2.trans (by rw [nI_clamp (by omega)])).symm
      refine lv_iload_n hx hb dX12_follows_19 rfl (lv_at hl 1 rfl) ?_
      refine lv_icmp_ne (tgt := 89) hx hb dX12_follows_20 (by decide) (fun c_20 => ?_) (fun c_20 => ?_)
      · have t_20 : (((vF 95) k5)).toInt ≠ ((nN : Nat) : Int) := toI_ne c_20 rfl (nI_toInt (by omega))
        refine lv_iinc (v := (nI (k5 + 1))) hx hb dX12_follows_89 hl (k := 3) rfl (nI_add k5 1) (by decide) rfl (fun ls (hl : lv_has ls _ ([(3, .int (nI (k5 + 1))), (0, .ref h0), (1, .int (nI nN)), (2, .int (nI bb))])) => ?_)
        refine lv_goto (tgt := 5) hx hb dX12_follows_92 (by decide) ?_
        have hl : lv_has _ _ ([(0, .ref h0), (1, .int (nI nN)), (2, .int (nI bb)), (3, .int (nI (k5 + 1)))]) := lv_sub hl [1, 2, 3, 0] rfl
        exact ih5 (k5 + 1) bb _ _ _ (by omega) (by (have hka : a0 ≠ k5 := fun e9 => by subst e9; exact c_20 e0f); exact ⟨hbb.1, hbb.2.1, fun h9 => hbb.2.2 (by omega)⟩) (pFo.no hFo (fun h9 => by have h8 := (pOn_iff (by omega) hx5 hyB ex5 ey5).mp h9; exact c_20 (by rw [ex5, h8.1]))) (by omega) hP hD hS hl
      · have t_20 : (((vF 95) k5)).toInt = ((nN : Nat) : Int) := toI_nne c_20 rfl (nI_toInt (by omega))
        refine lv_aload_n hx hb dX12_follows_23 rfl (lv_at hl 0 rfl) ?_
        refine va_get (D := (dC, dI)) (ci := 12) (v := .ref (a 102)) (C := RX12) (T := TX12) (N := 163) (fs := fM (vS a vi vj)) hx hb hts iwsRX12_follows_in12 hown hK hP 0 rfl rfl 158 (by decide) (hts (.fieldLink RX12 333 "OptimaWorksModel" "far" "[I") (by decide +kernel)) (fun _ h9 => h9) rfl dX12_follows_24 ?_
        refine lv_aload_n hx hb dX12_follows_27 rfl (lv_at hl 0 rfl) ?_
        refine va_get (D := (dC, dI)) (ci := 12) (v := .ref (a 96)) (C := RX12) (T := TX12) (N := 163) (fs := fM (vS a vi vj)) hx hb hts iwsRX12_follows_in12 hown hK hP 0 rfl rfl 152 (by decide) (hts (.fieldLink RX12 315 "OptimaWorksModel" "arcTo" "[I") (by decide +kernel)) (fun _ h9 => h9) rfl dX12_follows_28 ?_
        refine lv_iload_n hx hb dX12_follows_31 rfl (lv_at hl 3 rfl) ?_
        refine va_iald (cA := k 96) (n := 40) (f := (vF 96)) hx hb hK hP 97 96 (WR_get 96 (by decide)) (TR_get 96 (by decide)) (vp_in_nI (show k5 < 40 by omega) (by omega)) dX12_follows_32 ?_
        refine lv_topi (fun y3 hy3 => ?_)
        obtain rfl : ((vF 96) k5) = y3 := (hy3.trans (by rw [nI_clamp (by omega)])).symm
        refine lv_topi (fun y4 hy4 => ?_)
        obtain rfl : (nI yB) = y4 := (hy4.trans (ey5)).symm
        refine va_iald (cA := k 102) (n := 12) (f := (vF 102)) hx hb hK hP 103 102 (WR_get 102 (by decide)) (TR_get 102 (by decide)) (vp_in_nI (show yB < 12 by omega) (by omega)) dX12_follows_33 ?_
        refine lv_topi (fun y5 hy5 => ?_)
        obtain rfl : ((vF 102) yB) = y5 := (hy5.trans (by rw [nI_clamp (by omega)])).symm
        refine lv_ldcw (v := 536870912) hx hb hown (hts (.constant RX12 1072 536870912) (by decide +kernel)) dX12_follows_34 ?_
        refine lv_icmp_eq (tgt := 89) hx hb dX12_follows_37 (by decide) (fun c_37 => ?_) (fun c_37 => ?_)
        · have t_37 : (((vF 102) yB)).toInt = 536870912 := toI_eq c_37 rfl (by decide)
          refine lv_iinc (v := (nI (k5 + 1))) hx hb dX12_follows_89 hl (k := 3) rfl (nI_add k5 1) (by decide) rfl (fun ls (hl : lv_has ls _ ([(3, .int (nI (k5 + 1))), (0, .ref h0), (1, .int (nI nN)), (2, .int (nI bb))])) => ?_)
          refine lv_goto (tgt := 5) hx hb dX12_follows_92 (by decide) ?_
          have hl : lv_has _ _ ([(0, .ref h0), (1, .int (nI nN)), (2, .int (nI bb)), (3, .int (nI (k5 + 1)))]) := lv_sub hl [1, 2, 3, 0] rfl
          exact ih5 (k5 + 1) bb _ _ _ (by omega) (by (have hka : a0 ≠ k5 := fun e9 => by subst e9; (have ez : yB = z0 := (nI_eq (by omega) (by omega)).mp (ey5.symm.trans e0t)); subst ez; exact h0l c_37); exact ⟨hbb.1, hbb.2.1, fun h9 => hbb.2.2 (by omega)⟩) (pFo.no hFo (fun h9 => by have h8 := (pOn_iff (by omega) hx5 hyB ex5 ey5).mp h9; exact absurd (show (vF 102 yB).toInt < 536870912 from h8.2.1) (by rw [c_37]; decide))) (by omega) hP hD hS hl
        · have t_37 : ¬ (((vF 102) yB)).toInt = 536870912 := toI_neq c_37 rfl (by decide)
          refine lv_aload_n hx hb dX12_follows_40 rfl (lv_at hl 0 rfl) ?_
          refine va_get (D := (dC, dI)) (ci := 12) (v := .ref (a 102)) (C := RX12) (T := TX12) (N := 163) (fs := fM (vS a vi vj)) hx hb hts iwsRX12_follows_in12 hown hK hP 0 rfl rfl 158 (by decide) (hts (.fieldLink RX12 333 "OptimaWorksModel" "far" "[I") (by decide +kernel)) (fun _ h9 => h9) rfl dX12_follows_41 ?_
          refine lv_aload_n hx hb dX12_follows_44 rfl (lv_at hl 0 rfl) ?_
          refine va_get (D := (dC, dI)) (ci := 12) (v := .ref (a 96)) (C := RX12) (T := TX12) (N := 163) (fs := fM (vS a vi vj)) hx hb hts iwsRX12_follows_in12 hown hK hP 0 rfl rfl 152 (by decide) (hts (.fieldLink RX12 315 "OptimaWorksModel" "arcTo" "[I") (by decide +kernel)) (fun _ h9 => h9) rfl dX12_follows_45 ?_
          refine lv_iload_n hx hb dX12_follows_48 rfl (lv_at hl 3 rfl) ?_
          refine va_iald (cA := k 96) (n := 40) (f := (vF 96)) hx hb hK hP 97 96 (WR_get 96 (by decide)) (TR_get 96 (by decide)) (vp_in_nI (show k5 < 40 by omega) (by omega)) dX12_follows_49 ?_
          refine lv_topi (fun y6 hy6 => ?_)
          obtain rfl : ((vF 96) k5) = y6 := (hy6.trans (by rw [nI_clamp (by omega)])).symm
          refine lv_topi (fun y7 hy7 => ?_)
          obtain rfl : (nI yB) = y7 := (hy7.trans (ey5)).symm
          refine va_iald (cA := k 102) (n := 12) (f := (vF 102)) hx hb hK hP 103 102 (WR_get 102 (by decide)) (TR_get 102 (by decide)) (vp_in_nI (show yB < 12 by omega) (by omega)) dX12_follows_50 ?_
          refine lv_topi (fun y8 hy8 => ?_)
          obtain rfl : ((vF 102) yB) = y8 := (hy8.trans (by rw [nI_clamp (by omega)])).symm
          refine lv_bipush (v := 64) hx hb dX12_follows_51 (by decide) ?_
          refine lv_aload_n hx hb dX12_follows_53 rfl (lv_at hl 0 rfl) ?_
          refine va_get (D := (dC, dI)) (ci := 12) (v := .ref (a 98)) (C := RX12) (T := TX12) (N := 163) (fs := fM (vS a vi vj)) hx hb hts iwsRX12_follows_in12 hown hK hP 0 rfl rfl 154 (by decide) (hts (.fieldLink RX12 321 "OptimaWorksModel" "arcCost" "[I") (by decide +kernel)) (fun _ h9 => h9) rfl dX12_follows_54 ?_
          refine lv_iload_n hx hb dX12_follows_57 rfl (lv_at hl 3 rfl) ?_
          refine va_iald (cA := k 98) (n := 40) (f := (vF 98)) hx hb hK hP 99 98 (WR_get 98 (by decide)) (TR_get 98 (by decide)) (vp_in_nI (show k5 < 40 by omega) (by omega)) dX12_follows_58 ?_
          refine lv_topi (fun y9 hy9 => ?_)
          obtain rfl : ((vF 98) k5) = y9 := (hy9.trans (by rw [nI_clamp (by omega)])).symm
          refine lv_imul hx hb dX12_follows_59 ?_
          refine lv_iadd hx hb dX12_follows_60 ?_
          refine lv_iconst (v := 1) hx hb dX12_follows_61 (by decide) ?_
          refine lv_iadd hx hb dX12_follows_62 ?_
          have hm64 : (64 * vF 98 k5).toInt = 64 * (vF 98 k5).toInt := mul64 hc5
          have hcs : (vF 102 yB + 64 * vF 98 k5 + 1).toInt = (vF 102 yB).toInt + 64 * (vF 98 k5).toInt + 1 := by rw [addB (by rw [addB (by omega) (by omega)]; omega) (by decide), addB (by omega) (by omega), hm64]; rfl
          refine lv_aload_n hx hb dX12_follows_63 rfl (lv_at hl 0 rfl) ?_
          refine va_get (D := (dC, dI)) (ci := 12) (v := .ref (a 102)) (C := RX12) (T := TX12) (N := 163) (fs := fM (vS a vi vj)) hx hb hts iwsRX12_follows_in12 hown hK hP 0 rfl rfl 158 (by decide) (hts (.fieldLink RX12 333 "OptimaWorksModel" "far" "[I") (by decide +kernel)) (fun _ h9 => h9) rfl dX12_follows_64 ?_
          refine lv_iload_n hx hb dX12_follows_67 rfl (lv_at hl 1 rfl) ?_
          refine va_iald (cA := k 102) (n := 12) (f := (vF 102)) hx hb hK hP 103 102 (WR_get 102 (by decide)) (TR_get 102 (by decide)) (vp_in_nI (show nN < 12 by omega) (by omega)) dX12_follows_68 ?_
          refine lv_topi (fun y10 hy10 => ?_)
          obtain rfl : ((vF 102) nN) = y10 := (hy10.trans (by rw [nI_clamp (by omega)])).symm
          refine lv_icmp_ne (tgt := 89) hx hb dX12_follows_69 (by decide) (fun c_69 => ?_) (fun c_69 => ?_)
          · have t_69 : (((((vF 102) yB) + (64 * ((vF 98) k5))) + 1)).toInt ≠ (((vF 102) nN)).toInt := toI_ne c_69 rfl rfl
            refine lv_iinc (v := (nI (k5 + 1))) hx hb dX12_follows_89 hl (k := 3) rfl (nI_add k5 1) (by decide) rfl (fun ls (hl : lv_has ls _ ([(3, .int (nI (k5 + 1))), (0, .ref h0), (1, .int (nI nN)), (2, .int (nI bb))])) => ?_)
            refine lv_goto (tgt := 5) hx hb dX12_follows_92 (by decide) ?_
            have hl : lv_has _ _ ([(0, .ref h0), (1, .int (nI nN)), (2, .int (nI bb)), (3, .int (nI (k5 + 1)))]) := lv_sub hl [1, 2, 3, 0] rfl
            exact ih5 (k5 + 1) bb _ _ _ (by omega) (by (have hka : a0 ≠ k5 := fun e9 => by subst e9; (have ez : yB = z0 := (nI_eq (by omega) (by omega)).mp (ey5.symm.trans e0t)); subst ez; exact c_69 (Int32.toInt_inj.mp (by rw [hcs]; exact h0e))); exact ⟨hbb.1, hbb.2.1, fun h9 => hbb.2.2 (by omega)⟩) (pFo.no hFo (fun h9 => by have h8 := (pOn_iff (by omega) hx5 hyB ex5 ey5).mp h9; have h7 : (vF 102 yB).toInt + (64 * (vF 98 k5).toInt + 1) = (vF 102 nN).toInt := h8.2.2; exact c_69 (Int32.toInt_inj.mp (by rw [hcs]; omega)))) (by omega) hP hD hS hl
          · have t_69 : (((((vF 102) yB) + (64 * ((vF 98) k5))) + 1)).toInt = (((vF 102) nN)).toInt := toI_nne c_69 rfl rfl
            refine lv_aload_n hx hb dX12_follows_72 rfl (lv_at hl 0 rfl) ?_
            refine va_get (D := (dC, dI)) (ci := 12) (v := .ref (a 96)) (C := RX12) (T := TX12) (N := 163) (fs := fM (vS a vi vj)) hx hb hts iwsRX12_follows_in12 hown hK hP 0 rfl rfl 152 (by decide) (hts (.fieldLink RX12 315 "OptimaWorksModel" "arcTo" "[I") (by decide +kernel)) (fun _ h9 => h9) rfl dX12_follows_73 ?_
            refine lv_iload_n hx hb dX12_follows_76 rfl (lv_at hl 3 rfl) ?_
            refine va_iald (cA := k 96) (n := 40) (f := (vF 96)) hx hb hK hP 97 96 (WR_get 96 (by decide)) (TR_get 96 (by decide)) (vp_in_nI (show k5 < 40 by omega) (by omega)) dX12_follows_77 ?_
            refine lv_topi (fun y11 hy11 => ?_)
            obtain rfl : ((vF 96) k5) = y11 := (hy11.trans (by rw [nI_clamp (by omega)])).symm
            refine lv_topi (fun y12 hy12 => ?_)
            obtain rfl : (nI yB) = y12 := (hy12.trans (ey5)).symm
            refine lv_iload_n hx hb dX12_follows_78 rfl (lv_at hl 2 rfl) ?_
            refine lv_icmp_ge (tgt := 89) hx hb dX12_follows_79 (by decide) (fun c_79 => ?_) (fun c_79 => ?_)
            · have t_79 : ((yB : Nat) : Int) ≥ ((bb : Nat) : Int) := toI_ge c_79 (nI_toInt (by omega)) (nI_toInt (by omega))
              refine lv_iinc (v := (nI (k5 + 1))) hx hb dX12_follows_89 hl (k := 3) rfl (nI_add k5 1) (by decide) rfl (fun ls (hl : lv_has ls _ ([(3, .int (nI (k5 + 1))), (0, .ref h0), (1, .int (nI nN)), (2, .int (nI bb))])) => ?_)
              refine lv_goto (tgt := 5) hx hb dX12_follows_92 (by decide) ?_
              have hl : lv_has _ _ ([(0, .ref h0), (1, .int (nI nN)), (2, .int (nI bb)), (3, .int (nI (k5 + 1)))]) := lv_sub hl [1, 2, 3, 0] rfl
              exact ih5 (k5 + 1) bb _ _ _ (by omega) (⟨hbb.1, hbb.2.1, fun _ => by omega⟩) (pFo.keep hFo (by omega) (by rw [tTo_of hyB ey5]; omega)) (by omega) hP hD hS hl
            · have t_79 : ¬ ((yB : Nat) : Int) ≥ ((bb : Nat) : Int) := toI_nge c_79 (nI_toInt (by omega)) (nI_toInt (by omega))
              refine lv_aload_n hx hb dX12_follows_82 rfl (lv_at hl 0 rfl) ?_
              refine va_get (D := (dC, dI)) (ci := 12) (v := .ref (a 96)) (C := RX12) (T := TX12) (N := 163) (fs := fM (vS a vi vj)) hx hb hts iwsRX12_follows_in12 hown hK hP 0 rfl rfl 152 (by decide) (hts (.fieldLink RX12 315 "OptimaWorksModel" "arcTo" "[I") (by decide +kernel)) (fun _ h9 => h9) rfl dX12_follows_83 ?_
              refine lv_iload_n hx hb dX12_follows_86 rfl (lv_at hl 3 rfl) ?_
              refine va_iald (cA := k 96) (n := 40) (f := (vF 96)) hx hb hK hP 97 96 (WR_get 96 (by decide)) (TR_get 96 (by decide)) (vp_in_nI (show k5 < 40 by omega) (by omega)) dX12_follows_87 ?_
              refine lv_topi (fun y13 hy13 => ?_)
              obtain rfl : ((vF 96) k5) = y13 := (hy13.trans (by rw [nI_clamp (by omega)])).symm
              refine lv_topi (fun y14 hy14 => ?_)
              obtain rfl : (nI yB) = y14 := (hy14.trans (ey5)).symm
              refine lv_istore_n hx hb dX12_follows_88 rfl hl (by decide) rfl (fun ls (hl : lv_has ls _ ([(2, .int (nI yB)), (0, .ref h0), (1, .int (nI nN)), (3, .int (nI k5))])) => ?_)
              refine lv_iinc (v := (nI (k5 + 1))) hx hb dX12_follows_89 hl (k := 3) rfl (nI_add k5 1) (by decide) rfl (fun ls (hl : lv_has ls _ ([(3, .int (nI (k5 + 1))), (2, .int (nI yB)), (0, .ref h0), (1, .int (nI nN))])) => ?_)
              refine lv_goto (tgt := 5) hx hb dX12_follows_92 (by decide) ?_
              have hl : lv_has _ _ ([(0, .ref h0), (1, .int (nI nN)), (2, .int (nI yB)), (3, .int (nI (k5 + 1)))]) := lv_sub hl [2, 3, 1, 0] rfl
              exact ih5 (k5 + 1) yB _ _ _ (by omega) (⟨by omega, fun _ => c_37, fun _ => by omega⟩) (pFo.take hFo ((pOn_iff (by omega) hx5 hyB ex5 ey5).mpr ⟨(nI_eq (by omega) (by omega)).mp (ex5.symm.trans c_20), (show (vF 102 yB).toInt < 536870912 from by have h8 := hby.2.2 c_37; omega), (show (vF 102 yB).toInt + (64 * (vF 98 k5).toInt + 1) = (vF 102 nN).toInt from by rw [← c_69, hcs]; omega)⟩) (tTo_of hyB ey5).symm (Or.inr (by omega)) (by omega)) (by omega) hP hD hS hl
theorem dX12_path_0 : decode cX12_path 0 = .ok (.aload_n 0, 1) := dk_42 (by decide +kernel)
theorem dX12_path_1 : decode cX12_path 1 = .ok (.iload_n 1, 1) := dk_27 (by decide +kernel)
theorem dX12_path_2 : decode cX12_path 2 = .ok (.iload_n 2, 1) := dk_28 (by decide +kernel)
theorem dX12_path_3 : decode cX12_path 3 = .ok (.invokevirtual 1079, 3) := dk_182 (by decide +kernel)
theorem dX12_path_6 : decode cX12_path 6 = .ok (.ifCond .ne 5, 3) := dk_154 (by decide +kernel)
theorem dX12_path_9 : decode cX12_path 9 = .ok (.iconst 0, 1) := dk_3 (by decide +kernel)
theorem dX12_path_10 : decode cX12_path 10 = .ok (.ireturn, 1) := dk_172 (by decide +kernel)
theorem dX12_path_11 : decode cX12_path 11 = .ok (.iconst 0, 1) := dk_3 (by decide +kernel)
theorem dX12_path_12 : decode cX12_path 12 = .ok (.istore 4, 2) := dk_54 (by decide +kernel)
theorem dX12_path_14 : decode cX12_path 14 = .ok (.iload 4, 2) := dk_21 (by decide +kernel)
theorem dX12_path_16 : decode cX12_path 16 = .ok (.bipush 12, 2) := dk_16 (by decide +kernel)
theorem dX12_path_18 : decode cX12_path 18 = .ok (.if_icmp .ge 29, 3) := dk_162 (by decide +kernel)
theorem dX12_path_21 : decode cX12_path 21 = .ok (.aload_n 0, 1) := dk_42 (by decide +kernel)
theorem dX12_path_22 : decode cX12_path 22 = .ok (.getfield 333, 3) := dk_180 (by decide +kernel)
theorem dX12_path_25 : decode cX12_path 25 = .ok (.iload 4, 2) := dk_21 (by decide +kernel)
theorem dX12_path_27 : decode cX12_path 27 = .ok (.iload 4, 2) := dk_21 (by decide +kernel)
theorem dX12_path_29 : decode cX12_path 29 = .ok (.iload_n 2, 1) := dk_28 (by decide +kernel)
theorem dX12_path_30 : decode cX12_path 30 = .ok (.if_icmp .ne 7, 3) := dk_160 (by decide +kernel)
theorem dX12_path_33 : decode cX12_path 33 = .ok (.iconst 0, 1) := dk_3 (by decide +kernel)
theorem dX12_path_34 : decode cX12_path 34 = .ok (.goto 6, 3) := dk_167 (by decide +kernel)
theorem dX12_path_37 : decode cX12_path 37 = .ok (.ldc_w 1072, 3) := dk_19 (by decide +kernel)
theorem dX12_path_40 : decode cX12_path 40 = .ok (.iastore, 1) := dk_79 (by decide +kernel)
theorem dX12_path_41 : decode cX12_path 41 = .ok (.iinc 4 1, 3) := dk_132 (by decide +kernel)
theorem dX12_path_44 : decode cX12_path 44 = .ok (.goto (-30), 3) := dk_167 (by decide +kernel)
theorem dX12_path_47 : decode cX12_path 47 = .ok (.iconst 1, 1) := dk_4 (by decide +kernel)
theorem dX12_path_48 : decode cX12_path 48 = .ok (.istore 4, 2) := dk_54 (by decide +kernel)
theorem dX12_path_50 : decode cX12_path 50 = .ok (.iload 4, 2) := dk_21 (by decide +kernel)
theorem dX12_path_52 : decode cX12_path 52 = .ok (.ifCond .eq 109, 3) := dk_153 (by decide +kernel)
theorem dX12_path_55 : decode cX12_path 55 = .ok (.iconst 0, 1) := dk_3 (by decide +kernel)
theorem dX12_path_56 : decode cX12_path 56 = .ok (.istore 4, 2) := dk_54 (by decide +kernel)
theorem dX12_path_58 : decode cX12_path 58 = .ok (.iconst 0, 1) := dk_3 (by decide +kernel)
theorem dX12_path_59 : decode cX12_path 59 = .ok (.istore 5, 2) := dk_54 (by decide +kernel)
theorem dX12_path_61 : decode cX12_path 61 = .ok (.iload 5, 2) := dk_21 (by decide +kernel)
theorem dX12_path_63 : decode cX12_path 63 = .ok (.aload_n 0, 1) := dk_42 (by decide +kernel)
theorem dX12_path_64 : decode cX12_path 64 = .ok (.getfield 1069, 3) := dk_180 (by decide +kernel)
theorem dX12_path_67 : decode cX12_path 67 = .ok (.if_icmp .ge 91, 3) := dk_162 (by decide +kernel)
theorem dX12_path_70 : decode cX12_path 70 = .ok (.aload_n 0, 1) := dk_42 (by decide +kernel)
theorem dX12_path_71 : decode cX12_path 71 = .ok (.getfield 333, 3) := dk_180 (by decide +kernel)
theorem dX12_path_74 : decode cX12_path 74 = .ok (.aload_n 0, 1) := dk_42 (by decide +kernel)
theorem dX12_path_75 : decode cX12_path 75 = .ok (.getfield 315, 3) := dk_180 (by decide +kernel)
theorem dX12_path_78 : decode cX12_path 78 = .ok (.iload 5, 2) := dk_21 (by decide +kernel)
theorem dX12_path_80 : decode cX12_path 80 = .ok (.iaload, 1) := dk_46 (by decide +kernel)
theorem dX12_path_81 : decode cX12_path 81 = .ok (.iaload, 1) := dk_46 (by decide +kernel)
theorem dX12_path_82 : decode cX12_path 82 = .ok (.bipush 64, 2) := dk_16 (by decide +kernel)
theorem dX12_path_84 : decode cX12_path 84 = .ok (.aload_n 0, 1) := dk_42 (by decide +kernel)
theorem dX12_path_85 : decode cX12_path 85 = .ok (.getfield 321, 3) := dk_180 (by decide +kernel)
theorem dX12_path_88 : decode cX12_path 88 = .ok (.iload 5, 2) := dk_21 (by decide +kernel)
theorem dX12_path_90 : decode cX12_path 90 = .ok (.iaload, 1) := dk_46 (by decide +kernel)
theorem dX12_path_91 : decode cX12_path 91 = .ok (.imul, 1) := dk_104 (by decide +kernel)
theorem dX12_path_92 : decode cX12_path 92 = .ok (.iadd, 1) := dk_96 (by decide +kernel)
theorem dX12_path_93 : decode cX12_path 93 = .ok (.iconst 1, 1) := dk_4 (by decide +kernel)
theorem dX12_path_94 : decode cX12_path 94 = .ok (.iadd, 1) := dk_96 (by decide +kernel)
theorem dX12_path_95 : decode cX12_path 95 = .ok (.istore 6, 2) := dk_54 (by decide +kernel)
theorem dX12_path_97 : decode cX12_path 97 = .ok (.aload_n 0, 1) := dk_42 (by decide +kernel)
theorem dX12_path_98 : decode cX12_path 98 = .ok (.getfield 333, 3) := dk_180 (by decide +kernel)
theorem dX12_path_101 : decode cX12_path 101 = .ok (.aload_n 0, 1) := dk_42 (by decide +kernel)
theorem dX12_path_102 : decode cX12_path 102 = .ok (.getfield 315, 3) := dk_180 (by decide +kernel)
theorem dX12_path_105 : decode cX12_path 105 = .ok (.iload 5, 2) := dk_21 (by decide +kernel)
theorem dX12_path_107 : decode cX12_path 107 = .ok (.iaload, 1) := dk_46 (by decide +kernel)
theorem dX12_path_108 : decode cX12_path 108 = .ok (.iaload, 1) := dk_46 (by decide +kernel)
theorem dX12_path_109 : decode cX12_path 109 = .ok (.ldc_w 1072, 3) := dk_19 (by decide +kernel)
theorem dX12_path_112 : decode cX12_path 112 = .ok (.if_icmp .eq 40, 3) := dk_159 (by decide +kernel)
theorem dX12_path_115 : decode cX12_path 115 = .ok (.iload 6, 2) := dk_21 (by decide +kernel)
theorem dX12_path_117 : decode cX12_path 117 = .ok (.aload_n 0, 1) := dk_42 (by decide +kernel)
theorem dX12_path_118 : decode cX12_path 118 = .ok (.getfield 333, 3) := dk_180 (by decide +kernel)
theorem dX12_path_121 : decode cX12_path 121 = .ok (.aload_n 0, 1) := dk_42 (by decide +kernel)
theorem dX12_path_122 : decode cX12_path 122 = .ok (.getfield 312, 3) := dk_180 (by decide +kernel)
theorem dX12_path_125 : decode cX12_path 125 = .ok (.iload 5, 2) := dk_21 (by decide +kernel)
theorem dX12_path_127 : decode cX12_path 127 = .ok (.iaload, 1) := dk_46 (by decide +kernel)
theorem dX12_path_128 : decode cX12_path 128 = .ok (.iaload, 1) := dk_46 (by decide +kernel)
theorem dX12_path_129 : decode cX12_path 129 = .ok (.if_icmp .lt 6, 3) := dk_161 (by decide +kernel)
theorem dX12_path_132 : decode cX12_path 132 = .ok (.goto 20, 3) := dk_167 (by decide +kernel)
theorem dX12_path_135 : decode cX12_path 135 = .ok (.aload_n 0, 1) := dk_42 (by decide +kernel)
theorem dX12_path_136 : decode cX12_path 136 = .ok (.getfield 333, 3) := dk_180 (by decide +kernel)
theorem dX12_path_139 : decode cX12_path 139 = .ok (.aload_n 0, 1) := dk_42 (by decide +kernel)
theorem dX12_path_140 : decode cX12_path 140 = .ok (.getfield 312, 3) := dk_180 (by decide +kernel)
theorem dX12_path_143 : decode cX12_path 143 = .ok (.iload 5, 2) := dk_21 (by decide +kernel)
theorem dX12_path_145 : decode cX12_path 145 = .ok (.iaload, 1) := dk_46 (by decide +kernel)
theorem dX12_path_146 : decode cX12_path 146 = .ok (.iload 6, 2) := dk_21 (by decide +kernel)
theorem dX12_path_148 : decode cX12_path 148 = .ok (.iastore, 1) := dk_79 (by decide +kernel)
theorem dX12_path_149 : decode cX12_path 149 = .ok (.iconst 1, 1) := dk_4 (by decide +kernel)
theorem dX12_path_150 : decode cX12_path 150 = .ok (.istore 4, 2) := dk_54 (by decide +kernel)
theorem dX12_path_152 : decode cX12_path 152 = .ok (.iinc 5 1, 3) := dk_132 (by decide +kernel)
theorem dX12_path_155 : decode cX12_path 155 = .ok (.goto (-94), 3) := dk_167 (by decide +kernel)
theorem dX12_path_158 : decode cX12_path 158 = .ok (.goto (-108), 3) := dk_167 (by decide +kernel)
theorem dX12_path_161 : decode cX12_path 161 = .ok (.aload_n 0, 1) := dk_42 (by decide +kernel)
theorem dX12_path_162 : decode cX12_path 162 = .ok (.getfield 333, 3) := dk_180 (by decide +kernel)
theorem dX12_path_165 : decode cX12_path 165 = .ok (.iload_n 1, 1) := dk_27 (by decide +kernel)
theorem dX12_path_166 : decode cX12_path 166 = .ok (.iaload, 1) := dk_46 (by decide +kernel)
theorem dX12_path_167 : decode cX12_path 167 = .ok (.ldc_w 1072, 3) := dk_19 (by decide +kernel)
theorem dX12_path_170 : decode cX12_path 170 = .ok (.if_icmp .ne 15, 3) := dk_160 (by decide +kernel)
theorem dX12_path_173 : decode cX12_path 173 = .ok (.iload_n 3, 1) := dk_29 (by decide +kernel)
theorem dX12_path_174 : decode cX12_path 174 = .ok (.bipush (-3), 2) := dk_16 (by decide +kernel)
theorem dX12_path_176 : decode cX12_path 176 = .ok (.if_icmp .ne 7, 3) := dk_160 (by decide +kernel)
theorem dX12_path_179 : decode cX12_path 179 = .ok (.iconst 0, 1) := dk_3 (by decide +kernel)
theorem dX12_path_180 : decode cX12_path 180 = .ok (.goto 4, 3) := dk_167 (by decide +kernel)
theorem dX12_path_183 : decode cX12_path 183 = .ok (.iconst (-1), 1) := dk_2 (by decide +kernel)
theorem dX12_path_184 : decode cX12_path 184 = .ok (.ireturn, 1) := dk_172 (by decide +kernel)
theorem dX12_path_185 : decode cX12_path 185 = .ok (.iload_n 3, 1) := dk_29 (by decide +kernel)
theorem dX12_path_186 : decode cX12_path 186 = .ok (.bipush (-2), 2) := dk_16 (by decide +kernel)
theorem dX12_path_188 : decode cX12_path 188 = .ok (.if_icmp .ne 13, 3) := dk_160 (by decide +kernel)
theorem dX12_path_191 : decode cX12_path 191 = .ok (.aload_n 0, 1) := dk_42 (by decide +kernel)
theorem dX12_path_192 : decode cX12_path 192 = .ok (.getfield 333, 3) := dk_180 (by decide +kernel)
theorem dX12_path_195 : decode cX12_path 195 = .ok (.iload_n 1, 1) := dk_27 (by decide +kernel)
theorem dX12_path_196 : decode cX12_path 196 = .ok (.iaload, 1) := dk_46 (by decide +kernel)
theorem dX12_path_197 : decode cX12_path 197 = .ok (.bipush 64, 2) := dk_16 (by decide +kernel)
theorem dX12_path_199 : decode cX12_path 199 = .ok (.idiv, 1) := dk_108 (by decide +kernel)
theorem dX12_path_200 : decode cX12_path 200 = .ok (.ireturn, 1) := dk_172 (by decide +kernel)
theorem dX12_path_201 : decode cX12_path 201 = .ok (.iload_n 3, 1) := dk_29 (by decide +kernel)
theorem dX12_path_202 : decode cX12_path 202 = .ok (.bipush (-3), 2) := dk_16 (by decide +kernel)
theorem dX12_path_204 : decode cX12_path 204 = .ok (.if_icmp .ne 15, 3) := dk_160 (by decide +kernel)
theorem dX12_path_207 : decode cX12_path 207 = .ok (.aload_n 0, 1) := dk_42 (by decide +kernel)
theorem dX12_path_208 : decode cX12_path 208 = .ok (.getfield 333, 3) := dk_180 (by decide +kernel)
theorem dX12_path_211 : decode cX12_path 211 = .ok (.iload_n 1, 1) := dk_27 (by decide +kernel)
theorem dX12_path_212 : decode cX12_path 212 = .ok (.iaload, 1) := dk_46 (by decide +kernel)
theorem dX12_path_213 : decode cX12_path 213 = .ok (.bipush 64, 2) := dk_16 (by decide +kernel)
theorem dX12_path_215 : decode cX12_path 215 = .ok (.irem, 1) := dk_112 (by decide +kernel)
theorem dX12_path_216 : decode cX12_path 216 = .ok (.iconst 1, 1) := dk_4 (by decide +kernel)
theorem dX12_path_217 : decode cX12_path 217 = .ok (.iadd, 1) := dk_96 (by decide +kernel)
theorem dX12_path_218 : decode cX12_path 218 = .ok (.ireturn, 1) := dk_172 (by decide +kernel)
theorem dX12_path_219 : decode cX12_path 219 = .ok (.iload_n 3, 1) := dk_29 (by decide +kernel)
theorem dX12_path_220 : decode cX12_path 220 = .ok (.ifCond .ge 5, 3) := dk_156 (by decide +kernel)
theorem dX12_path_223 : decode cX12_path 223 = .ok (.iconst (-1), 1) := dk_2 (by decide +kernel)
theorem dX12_path_224 : decode cX12_path 224 = .ok (.ireturn, 1) := dk_172 (by decide +kernel)
theorem dX12_path_225 : decode cX12_path 225 = .ok (.iload_n 1, 1) := dk_27 (by decide +kernel)
theorem dX12_path_226 : decode cX12_path 226 = .ok (.istore 5, 2) := dk_54 (by decide +kernel)
theorem dX12_path_228 : decode cX12_path 228 = .ok (.iconst 0, 1) := dk_3 (by decide +kernel)
theorem dX12_path_229 : decode cX12_path 229 = .ok (.istore 6, 2) := dk_54 (by decide +kernel)
theorem dX12_path_231 : decode cX12_path 231 = .ok (.iload 6, 2) := dk_21 (by decide +kernel)
theorem dX12_path_233 : decode cX12_path 233 = .ok (.iload_n 3, 1) := dk_29 (by decide +kernel)
theorem dX12_path_234 : decode cX12_path 234 = .ok (.if_icmp .ge 25, 3) := dk_162 (by decide +kernel)
theorem dX12_path_237 : decode cX12_path 237 = .ok (.iload 5, 2) := dk_21 (by decide +kernel)
theorem dX12_path_239 : decode cX12_path 239 = .ok (.iload_n 2, 1) := dk_28 (by decide +kernel)
theorem dX12_path_240 : decode cX12_path 240 = .ok (.if_icmp .ne 5, 3) := dk_160 (by decide +kernel)
theorem dX12_path_243 : decode cX12_path 243 = .ok (.iconst (-1), 1) := dk_2 (by decide +kernel)
theorem dX12_path_244 : decode cX12_path 244 = .ok (.ireturn, 1) := dk_172 (by decide +kernel)
theorem dX12_path_245 : decode cX12_path 245 = .ok (.aload_n 0, 1) := dk_42 (by decide +kernel)
theorem dX12_path_246 : decode cX12_path 246 = .ok (.iload 5, 2) := dk_21 (by decide +kernel)
theorem dX12_path_248 : decode cX12_path 248 = .ok (.invokevirtual 1086, 3) := dk_182 (by decide +kernel)
theorem dX12_path_251 : decode cX12_path 251 = .ok (.istore 5, 2) := dk_54 (by decide +kernel)
theorem dX12_path_253 : decode cX12_path 253 = .ok (.iinc 6 1, 3) := dk_132 (by decide +kernel)
theorem dX12_path_256 : decode cX12_path 256 = .ok (.goto (-25), 3) := dk_167 (by decide +kernel)
theorem dX12_path_259 : decode cX12_path 259 = .ok (.iload 5, 2) := dk_21 (by decide +kernel)
theorem dX12_path_261 : decode cX12_path 261 = .ok (.ireturn, 1) := dk_172 (by decide +kernel)
def wsRX12_path : List Cond := .code yX12_path cX12_path 7 (some .int) :: ([.fieldLink RX12 333 "OptimaWorksModel" "far" "[I", .constant RX12 1072 536870912, .fieldLink RX12 1069 "OptimaWorksModel" "arcs" "I", .fieldLink RX12 315 "OptimaWorksModel" "arcTo" "[I", .fieldLink RX12 321 "OptimaWorksModel" "arcCost" "[I", .fieldLink RX12 312 "OptimaWorksModel" "arcFrom" "[I"] ++ wsX120 ++ (wsV RX12 1079 RX12 yX12_areEnds wsRX12_areEnds) ++ (wsV RX12 1086 RX12 yX12_follows wsRX12_follows))
theorem iwsRX12_path_in12 : ∀ w ∈ wsX120, w ∈ wsRX12_path := fun _ h => List.mem_cons_of_mem _ (List.mem_append_left _ (List.mem_append_left _ (List.mem_append_right _ h)))
theorem gwsRX12_path_0 : GoodIn wsRX12_path (wsV RX12 1079 RX12 yX12_areEnds wsRX12_areEnds) := goodIn_sub (fun _ h => List.mem_cons_of_mem _ (List.mem_append_left _ (List.mem_append_right _ h))) (gdV (by decide +kernel) gdwsRX12_areEnds)
theorem gwsRX12_path_1 : GoodIn wsRX12_path (wsV RX12 1086 RX12 yX12_follows wsRX12_follows) := goodIn_sub (fun _ h => List.mem_cons_of_mem _ (List.mem_append_right _ h)) (gdV (by decide +kernel) gdwsRX12_follows)
theorem gdwsRX12_path : wsRX12_path.all goodWord = true := gdC rfl (gdA (gdA (gdA (by decide +kernel : ([.fieldLink RX12 333 "OptimaWorksModel" "far" "[I", .constant RX12 1072 536870912, .fieldLink RX12 1069 "OptimaWorksModel" "arcs" "I", .fieldLink RX12 315 "OptimaWorksModel" "arcTo" "[I", .fieldLink RX12 321 "OptimaWorksModel" "arcCost" "[I", .fieldLink RX12 312 "OptimaWorksModel" "arcFrom" "[I"] : List Cond).all goodWord = true) gdwsX120) (gdV (by decide +kernel) gdwsRX12_areEnds)) (gdV (by decide +kernel) gdwsRX12_follows))
set_option maxHeartbeats 4000000 in
set_option maxRecDepth 100000 in
/-- path(s, t, i) -/
theorem r_X12_path (l : Launch) (dC : Nat → ClassId) (dI : Nat → Nat → Nat) (a : Nat → Nat) (k : Nat → ClassId) (h0 : Nat) (vi : Nat → Int32) (vj : Nat → Int64) (vF : Nat → Nat → Int32) (vG : Nat → Nat → Int64) (sI : Int32) (tI : Int32) (iI : Int32) (ar : Nat) (har : vi 150 = nI ar) (har40 : ar ≤ 40) (hAr : ArO (vF 95) (vF 96) (vF 97) (vF 98) ar) (sz : Nat) : Met l yX12_path wsRX12_path ({ frames := 2, cells := 0, slots := 0, locals := 42 }) (va_Pc [.ref h0, .int sI, .int tI, .int iI] (fun U => U.heap.size = sz ∧ va_P (dC, dI) vwCl (WR a k h0 vi vj vF vG) U.heap ∧ va_K (dC, dI) vwCl (tX12 k) U ∧ va_D (fun _ => True) (WR a k h0 vi vj vF vG))) (va_Qi (fun (r : Int32) (u : (Int32) × (Nat → Int32)) => ((((u.1) = 1 ∧ ¬ ((0 ≤ (sI).toInt ∧ (sI).toInt ≤ 11) ∧ 0 ≤ (tI).toInt ∧ (tI).toInt ≤ 11)) ∨ ((u.1) = 2 ∧ ((0 ≤ (sI).toInt ∧ (sI).toInt ≤ 11) ∧ 0 ≤ (tI).toInt ∧ (tI).toInt ≤ 11) ∧ (sI).toInt = (tI).toInt))) ∨ (((u.1) = 0) ∧ (((0 ≤ (sI).toInt ∧ (sI).toInt ≤ 11) ∧ 0 ≤ (tI).toInt ∧ (tI).toInt ≤ 11) ∧ (sI).toInt ≠ (tI).toInt) ∧ (pAns (((ar : Nat) : Int), vF 95, vF 96, vF 97, vF 98) (sI).toInt.toNat (tI).toInt.toNat (iI).toInt r.toInt))) (fun (u : (Int32) × (Nat → Int32)) t => va_P (dC, dI) vwCl (WR a k h0 (fT vi 0 (u.1)) vj (fT vF 102 (u.2)) vG) t.heap ∧ va_D (va_A (WR a k h0 vi vj vF vG) sz) (WR a k h0 (fT vi 0 (u.1)) vj (fT vF 102 (u.2)) vG)) (va_A (WR a k h0 vi vj vF vG) sz)) 0 0 (va_A (WR a k h0 vi vj vF vG) sz) := by
  refine Met.ofW (cc := cX12_path) (maxL := 7) (ret := (some .int)) (by decide) rfl ?_
  intro p e s m args below meth c s₁ B hml hv
  obtain ⟨rfl, hsz, hP, hK, hD0⟩ := hv
  have hx := B.exec
  have hb := B.bytes
  have hr := B.returns
  have hts := atoms_spec (ws := wsRX12_path) B.pre
  have hown : s.vm.findClass RX12 = some m.cls := findClass_of_methodNamed B.named
  have hlocks := B.notSynchronized
  subst hsz
  have hD := hD0.self (sz := s.heap.size)
  generalize hAe : va_A (WR a k h0 vi vj vF vG) s.heap.size = A at hD ⊢
  have hA : ∀ q : Nat, s.heap.size ≤ q → A q := fun q h => by rw [← hAe]; exact Or.inr h
  have hS : va_S A s.heap s.heap [] := va_S.rf
  have hl := lv_entry ([.ref h0, .int sI, .int tI, .int iI]) (n := 7) (Nat.le_of_ble_eq_true rfl)
  rw [lg_entry_eq]
  generalize (lg_sl ([.ref h0, .int sI, .int tI, .int iI]) ++ List.replicate (7 - (lg_sl ([.ref h0, .int sI, .int tI, .int iI])).length) Slot.unset).toArray = ls at hl ⊢
  have hl : lv_has ls 7 [(0, .ref h0), (1, .int sI), (2, .int tI), (3, .int iI)] := hl
  have hiB := Int32.toInt_lt iI
  refine lv_aload_n hx hb dX12_path_0 rfl (lv_at hl 0 rfl) ?_
  refine lv_iload_n hx hb dX12_path_1 rfl (lv_at hl 1 rfl) ?_
  refine lv_iload_n hx hb dX12_path_2 rfl (lv_at hl 2 rfl) ?_
  have hFc := allFree hD hS hA
  refine va_calli (va_runV (As := [.int sI, .int tI]) (rest := []) ⟨hx, hb, hml, hown, hts⟩ (r_X12_areEnds l dC dI a k h0 vi vj vF vG sI tI s.heap.size) (cwV 2 hts gwsRX12_path_0 rfl rfl rfl hd_yX12_areEnds_RX12 (by decide +kernel)) (fz_pre (va_recv hK hP (ci := 12) (q0 := 0) rfl rfl) hP hK hD) rfl rfl hl.1 rfl (lv_room (Nat.le_of_ble_eq_true rfl)) dX12_path_3 (by decide +kernel)) hS (fun q _ h => hFc q h) hFc (fun r3 u t9_ H locs ht hvm hw9 hB9 hz1 hk1 hS => ?_)
  obtain ⟨th3, hwit3⟩ : ∃ w9, w9 = u := ⟨u, rfl⟩
  subst hwit3
  have hP : va_P (dC, dI) vwCl (WR a k h0 (fT vi 0 th3) vj vF vG) H := fz_P ht hB9.1
  have hD : va_D A (WR a k h0 (fT vi 0 th3) vj vF vG) := hB9.2.weaken (fun _ q _ h => hFc q.1 h)
  rcases hw9 with ⟨rfl, f3_0, f3_1, f3_2, f3_3⟩ | ⟨rfl, f3_0⟩
  · refine lv_if_ne (tgt := 11) hx hb dX12_path_6 (by decide) (fun _ => ?_) (fun c9 => absurd c9 (by decide))
    obtain ⟨sN, hsN, esN⟩ := of_toInt (x := sI) (k := 12) (by omega) (by omega)
    subst esN
    obtain ⟨tN, htN, etN⟩ := of_toInt (x := tI) (k := 12) (by omega) (by omega)
    subst etN
    refine lv_iconst (v := 0) hx hb dX12_path_11 (by decide) ?_
    refine lv_istore hx hb dX12_path_12 hl (by decide) rfl (fun ls (hl : lv_has ls _ ([(4, .int 0), (0, .ref h0), (1, .int (nI sN)), (2, .int (nI tN)), (3, .int iI)])) => ?_)
    have e9 : fT vF 102 (vF 102) = vF := by funext q9; by_cases h9_102 : q9 = 102; (subst h9_102; exact (fT_eq _ _ _).trans (Eq.trans (by first | rfl | assumption | (symm; assumption) | (subst_vars; rfl)) (Eq.refl _).symm)); exact (fT_ne _ _ h9_102).trans (Eq.refl _).symm
    have hP : va_P (dC, dI) vwCl (WR a k h0 (fT vi 0 th3) vj (fT vF 102 (vF 102)) vG) H := by rw [e9]; exact hP
    have hD : va_D A (WR a k h0 (fT vi 0 th3) vj (fT vF 102 (vF 102)) vG) := by rw [e9]; exact hD
    clear e9
    have hl : lv_has _ _ ([(0, .ref h0), (1, .int (nI sN)), (2, .int (nI tN)), (3, .int iI), (4, .int (nI 0))]) := lv_sub hl [1, 2, 3, 4, 0] rfl
    refine (fun (loop : ∀ (n9 : Nat) (n1 : Nat) (f1 : Nat → Int32) (H : Heap) (locs : List Loc) (ls : Array Slot), (n1 ≤ 12) → (∀ n, n < n1 → f1 n = if n = tN then 0 else 536870912) →  (12 < n1 + n9) → va_P (dC, dI) vwCl (WR a k h0 (fT vi 0 th3) vj (fT vF 102 f1) vG) H → va_D A (WR a k h0 (fT vi 0 th3) vj (fT vF 102 f1) vG) → va_S A s.heap H locs → lv_has ls 7 [(0, .ref h0), (1, .int (nI sN)), (2, .int (nI tN)), (3, .int iI), (4, .int (nI n1))] → W p l e _ s m _ below meth c H locs 0 0 _ (F0 m 14 ls [])) => loop (13) 0 (vF 102) _ _ _ (by omega) (fun n hn => absurd hn (by omega)) (by omega) hP hD hS hl) ?_
    intro n9
    induction n9 with
    | zero => intro n1 f1 H locs ls hn1 hz hf9; exact False.elim (by omega)
    | succ n9 ih14 =>
      intro n1 f1 H locs ls hn1 hz hf14 hP hD hS hl
      refine lv_iload hx hb dX12_path_14 (lv_at hl 4 rfl) ?_
      refine lv_bipush (v := 12) hx hb dX12_path_16 (by decide) ?_
      refine lv_icmp_ge (tgt := 47) hx hb dX12_path_18 (by decide) (fun c_18 => ?_) (fun c_18 => ?_)
      · have t_18 : ((n1 : Nat) : Int) ≥ 12 := toI_ge c_18 (nI_toInt (by omega)) (by decide)
        have hFa0 : FaO (vF 95) (vF 96) (vF 98) ar tN f1 := FaO.init htN (fun n hn => hz n (by omega))
        refine lv_iconst (v := 1) hx hb dX12_path_47 (by decide) ?_
        refine lv_istore hx hb dX12_path_48 hl (by decide) rfl (fun ls (hl : lv_has ls _ ([(4, .int 1), (0, .ref h0), (1, .int (nI sN)), (2, .int (nI tN)), (3, .int iI)])) => ?_)
        have hl : lv_has _ _ ([(0, .ref h0), (1, .int (nI sN)), (2, .int (nI tN)), (3, .int iI), (4, .int 1)]) := lv_sub hl [1, 2, 3, 4, 0] rfl
        refine (fun (loop : ∀ (n9 : Nat) (lz : Int32) (fa1 : Nat → Int32) (H : Heap) (locs : List Loc) (ls : Array Slot), (FaO (vF 95) (vF 96) (vF 98) ar tN fa1) → (lz = 0 → FaC (vF 95) (vF 96) (vF 98) ar fa1) →  ((lz = 0 ∧ 0 < n9) ∨ sPr fa1 + 1 < n9) → va_P (dC, dI) vwCl (WR a k h0 (fT vi 0 th3) vj (fT vF 102 fa1) vG) H → va_D A (WR a k h0 (fT vi 0 th3) vj (fT vF 102 fa1) vG) → va_S A s.heap H locs → lv_has ls 7 [(0, .ref h0), (1, .int (nI sN)), (2, .int (nI tN)), (3, .int iI), (4, .int lz)] → W p l e _ s m _ below meth c H locs 0 0 _ (F0 m 50 ls [])) => loop (sPr f1 + 2) 1 f1 _ _ _ (hFa0) (fun h9 => absurd h9 (by decide)) (Or.inr (by omega)) hP hD hS hl) ?_
        intro n9
        induction n9 with
        | zero => intro lz fa1 H locs ls hFa1 hCl1 hf9; exact False.elim (by omega)
        | succ n9 ih50_1 =>
          intro lz fa1 H locs ls hFa1 hCl1 hf50_1 hP hD hS hl
          have hfx := hf50_1
          refine lv_iload hx hb dX12_path_50 (lv_at hl 4 rfl) ?_
          refine lv_if_eq (tgt := 161) hx hb dX12_path_52 (by decide) (fun c_52 => ?_) (fun c_52 => ?_)
          · have t_52 : (lz).toInt = 0 := toI_eq c_52 rfl (by decide)
            have hFcc := hCl1 c_52
            have hDis := FaO.dis hAr htN hFa1 hFcc
            have hnr : ∀ n, n < 12 → fa1 n ≠ 536870912 → (fa1 n).toInt < 536870912 := fun n hn h9 => by have h8 := (hFa1.bd hn).2.2 h9; omega
            have hs0 := hFa1.bd hsN
            have es9 : (nI sN).toInt.toNat = sN := by rw [nI_toInt (by omega)]; omega
            have et9 : (nI tN).toInt.toNat = tN := by rw [nI_toInt (by omega)]; omega
            refine lv_aload_n hx hb dX12_path_161 rfl (lv_at hl 0 rfl) ?_
            refine va_get (D := (dC, dI)) (ci := 12) (v := .ref (a 102)) (C := RX12) (T := TX12) (N := 163) (fs := fM (vS a (fT vi 0 th3) vj)) hx hb hts iwsRX12_path_in12 hown hK hP 0 rfl rfl 158 (by decide) (hts (.fieldLink RX12 333 "OptimaWorksModel" "far" "[I") (by decide +kernel)) (fun _ h9 => h9) rfl dX12_path_162 ?_
            refine lv_iload_n hx hb dX12_path_165 rfl (lv_at hl 1 rfl) ?_
            refine va_iald (cA := k 102) (n := 12) (f := fa1) hx hb hK hP 103 102 (WR_get 102 (by decide)) (TR_get 102 (by decide)) (vp_in_nI (show sN < 12 by omega) (by omega)) dX12_path_166 ?_
            refine lv_topi (fun y1 hy1 => ?_)
            obtain rfl : (fa1 sN) = y1 := (hy1.trans (by rw [nI_clamp (by omega)])).symm
            refine lv_ldcw (v := 536870912) hx hb hown (hts (.constant RX12 1072 536870912) (by decide +kernel)) dX12_path_167 ?_
            refine lv_icmp_ne (tgt := 185) hx hb dX12_path_170 (by decide) (fun c_170 => ?_) (fun c_170 => ?_)
            · have t_170 : ((fa1 sN)).toInt ≠ 536870912 := toI_ne c_170 rfl (by decide)
              refine lv_iload_n hx hb dX12_path_185 rfl (lv_at hl 3 rfl) ?_
              refine lv_bipush (v := (-2)) hx hb dX12_path_186 (by decide) ?_
              refine lv_icmp_ne (tgt := 201) hx hb dX12_path_188 (by decide) (fun c_188 => ?_) (fun c_188 => ?_)
              · have t_188 : (iI).toInt ≠ -2 := toI_ne c_188 rfl (by decide)
                refine lv_iload_n hx hb dX12_path_201 rfl (lv_at hl 3 rfl) ?_
                refine lv_bipush (v := (-3)) hx hb dX12_path_202 (by decide) ?_
                refine lv_icmp_ne (tgt := 219) hx hb dX12_path_204 (by decide) (fun c_204 => ?_) (fun c_204 => ?_)
                · have t_204 : (iI).toInt ≠ -3 := toI_ne c_204 rfl (by decide)
                  refine lv_iload_n hx hb dX12_path_219 rfl (lv_at hl 3 rfl) ?_
                  refine lv_if_ge (tgt := 225) hx hb dX12_path_220 (by decide) (fun c_220 => ?_) (fun c_220 => ?_)
                  · have t_220 : (iI).toInt ≥ 0 := toI_ge c_220 rfl (by decide)
                    refine lv_iload_n hx hb dX12_path_225 rfl (lv_at hl 1 rfl) ?_
                    refine lv_istore hx hb dX12_path_226 hl (by decide) rfl (fun ls (hl : lv_has ls _ ([(5, .int (nI sN)), (0, .ref h0), (1, .int (nI sN)), (2, .int (nI tN)), (3, .int iI), (4, .int lz)])) => ?_)
                    refine lv_iconst (v := 0) hx hb dX12_path_228 (by decide) ?_
                    refine lv_istore hx hb dX12_path_229 hl (by decide) rfl (fun ls (hl : lv_has ls _ ([(6, .int 0), (5, .int (nI sN)), (0, .ref h0), (1, .int (nI sN)), (2, .int (nI tN)), (3, .int iI), (4, .int lz)])) => ?_)
                    have hl : lv_has _ _ ([(0, .ref h0), (2, .int (nI tN)), (3, .int iI), (5, .int (nI sN)), (6, .int (nI 0))]) := lv_sub hl [2, 4, 5, 1, 0] rfl
                    refine (fun (loop : ∀ (n9 : Nat) (k6 : Nat) (x6 : Nat) (H : Heap) (locs : List Loc) (ls : Array Slot), ((k6 : Int) ≤ (iI).toInt) → (x6 < 12) → (fa1 x6 ≠ 536870912) → (pWay (((ar : Nat) : Int), vF 95, vF 96, vF 97, vF 98) (w64 (((ar : Nat) : Int), vF 95, vF 96, vF 97, vF 98)) tN (fun n => (fa1 n).toInt) sN k6 x6) → ((fa1 x6).toInt % 64 = (fa1 sN).toInt % 64 - (k6 : Int)) →  ((iI).toInt < k6 + (n9 : Int)) → va_P (dC, dI) vwCl (WR a k h0 (fT vi 0 th3) vj (fT vF 102 fa1) vG) H → va_D A (WR a k h0 (fT vi 0 th3) vj (fT vF 102 fa1) vG) → va_S A s.heap H locs → lv_has ls 7 [(0, .ref h0), (2, .int (nI tN)), (3, .int iI), (5, .int (nI x6)), (6, .int (nI k6))] → W p l e _ s m _ below meth c H locs 0 0 _ (F0 m 231 ls [])) => loop ((iI).toInt.toNat + 1) 0 sN _ _ _ (by omega) (by omega) (c_170) (rfl) (by omega) (by omega) hP hD hS hl) ?_
                    intro n9
                    induction n9 with
                    | zero => intro k6 x6 H locs ls hk6 hx6 hxl hWy hK6 hf9; exact False.elim (by omega)
                    | succ n9 ih231_2 =>
                      intro k6 x6 H locs ls hk6 hx6 hxl hWy hK6 hf231_2 hP hD hS hl
                      refine lv_iload hx hb dX12_path_231 (lv_at hl 4 rfl) ?_
                      refine lv_iload_n hx hb dX12_path_233 rfl (lv_at hl 2 rfl) ?_
                      refine lv_icmp_ge (tgt := 259) hx hb dX12_path_234 (by decide) (fun c_234 => ?_) (fun c_234 => ?_)
                      · have t_234 : ((k6 : Nat) : Int) ≥ (iI).toInt := toI_ge c_234 (nI_toInt (by omega)) rfl
                        refine lv_iload hx hb dX12_path_259 (lv_at hl 3 rfl) ?_
                        refine W.widen (k := 0) (n := 0) (by decide +kernel) (by decide +kernel) ?_
                        exact W.iret (v := (nI x6)) hx hb hr (fun t9_ ht hW => ⟨⟨(nI x6), (th3, fa1), rfl, by (try dsimp only); exact Or.inr ⟨f3_3, ⟨by omega, fun e9 => f3_2 (Int32.toInt_inj.mp e9)⟩, by rw [es9, et9]; exact pA.near (ArO.val hAr) hDis hsN (show (fa1 sN).toInt < 536870912 from hnr sN hsN c_170) (Or.inr (Or.inr (Or.inr (Or.inr ⟨t_220, (show (iI).toInt ≤ (fa1 sN).toInt % 64 from by omega), by rw [nI_toInt (by omega)]; omega, by rw [show (iI).toInt.toNat = k6 from by omega, show (nI x6).toInt.toNat = x6 from by rw [nI_toInt (by omega)]; omega]; exact hWy⟩))))⟩, by rw [ht]; exact hP, hD⟩, hS.F ht⟩) hS.2.2 dX12_path_261
                      · have t_234 : ¬ ((k6 : Nat) : Int) ≥ (iI).toInt := toI_nge c_234 (nI_toInt (by omega)) rfl
                        refine lv_iload hx hb dX12_path_237 (lv_at hl 3 rfl) ?_
                        refine lv_iload_n hx hb dX12_path_239 rfl (lv_at hl 1 rfl) ?_
                        refine lv_icmp_ne (tgt := 245) hx hb dX12_path_240 (by decide) (fun c_240 => ?_) (fun c_240 => ?_)
                        · have t_240 : ((x6 : Nat) : Int) ≠ ((tN : Nat) : Int) := toI_ne c_240 (nI_toInt (by omega)) (nI_toInt (by omega))
                          refine lv_aload_n hx hb dX12_path_245 rfl (lv_at hl 0 rfl) ?_
                          refine lv_iload hx hb dX12_path_246 (lv_at hl 3 rfl) ?_
                          have hFc := allFree hD hS hA
                          refine va_calli (va_runV (As := [.int (nI x6)]) (rest := []) ⟨hx, hb, hml, hown, hts⟩ (r_X12_follows l dC dI a k h0 (fT vi 0 th3) vj (fT vF 102 fa1) vG ar x6 tN har (by first | assumption | decide | omega | rfl) (by first | assumption | decide | omega | rfl) (by first | assumption | decide | omega | rfl) (htN) (fun e9 => c_240 (by rw [e9])) (hxl) (hFa1) (hFcc) H.size) (cwV 1 hts gwsRX12_path_1 rfl rfl rfl hd_yX12_follows_RX12 (by decide +kernel)) (fz_pre (va_recv hK hP (ci := 12) (q0 := 0) rfl rfl) hP hK hD) rfl rfl hl.1 rfl (lv_room (Nat.le_of_ble_eq_true rfl)) dX12_path_248 (by decide +kernel)) hS (fun q _ h => hFc q h) hFc (fun r248 u t9_ H locs ht hvm hw9 hB9 hz1 hk1 hS => ?_)
                          obtain ⟨x2248, hwit248⟩ : ∃ w9, w9 = u := ⟨u, rfl⟩
                          subst hwit248
                          have hP : va_P (dC, dI) vwCl (WR a k h0 (fT vi 0 th3) vj (fT vF 102 fa1) vG) H := fz_P ht hB9.1
                          have hD : va_D A (WR a k h0 (fT vi 0 th3) vj (fT vF 102 fa1) vG) := hB9.2.weaken (fun _ q _ h => hFc q.1 h)
                          obtain ⟨rfl, f248_0, f248_1, f248_2⟩ := hw9
                          have f248_1 : fa1 x2248 ≠ 536870912 := f248_1
                          have f248_2 : pNx (((ar : Nat) : Int), (vF 95), (vF 96), (vF 97), (vF 98)) (w64 (((ar : Nat) : Int), (vF 95), (vF 96), (vF 97), (vF 98))) (fun n => (fa1 n).toInt) x6 x2248 := f248_2
                          refine lv_istore hx hb dX12_path_251 hl (by decide) rfl (fun ls (hl : lv_has ls _ ([(5, .int (nI x2248)), (0, .ref h0), (2, .int (nI tN)), (3, .int iI), (6, .int (nI k6))])) => ?_)
                          refine lv_iinc (v := (nI (k6 + 1))) hx hb dX12_path_253 hl (k := 4) rfl (nI_add k6 1) (by decide) rfl (fun ls (hl : lv_has ls _ ([(6, .int (nI (k6 + 1))), (5, .int (nI x2248)), (0, .ref h0), (2, .int (nI tN)), (3, .int iI)])) => ?_)
                          refine lv_goto (tgt := 231) hx hb dX12_path_256 (by decide) ?_
                          have hl : lv_has _ _ ([(0, .ref h0), (2, .int (nI tN)), (3, .int iI), (5, .int (nI x2248)), (6, .int (nI (k6 + 1)))]) := lv_sub hl [2, 3, 4, 1, 0] rfl
                          exact ih231_2 (k6 + 1) x2248 _ _ _ (by omega) (f248_0) (f248_1) (⟨x6, hWy, fun e9 => c_240 (by rw [e9]), f248_2⟩) (by have h8 := (pNx.s64 (ArO.val hAr) hDis hx6 (hnr x6 hx6 hxl) f248_2).2.2; have h7 : (fa1 x2248).toInt % 64 = (fa1 x6).toInt % 64 - 1 := h8; omega) (by omega) hP hD hS hl
                        · have t_240 : ((x6 : Nat) : Int) = ((tN : Nat) : Int) := toI_nne c_240 (nI_toInt (by omega)) (nI_toInt (by omega))
                          refine lv_iconst (v := (-1)) hx hb dX12_path_243 (by decide) ?_
                          refine W.widen (k := 0) (n := 0) (by decide +kernel) (by decide +kernel) ?_
                          exact W.iret (v := (-1)) hx hb hr (fun t9_ ht hW => ⟨⟨(-1), (th3, fa1), rfl, by (try dsimp only); exact Or.inr ⟨f3_3, ⟨by omega, fun e9 => f3_2 (Int32.toInt_inj.mp e9)⟩, by rw [es9, et9]; exact pA.near (ArO.val hAr) hDis hsN (show (fa1 sN).toInt < 536870912 from hnr sN hsN c_170) (Or.inr (Or.inr (Or.inr (Or.inl ⟨t_220, (show (fa1 sN).toInt % 64 < (iI).toInt from by have h8 : (fa1 x6).toInt = 0 := (by rw [show x6 = tN from by omega, hFa1.1]; decide); rw [h8] at hK6; omega), by decide⟩))))⟩, by rw [ht]; exact hP, hD⟩, hS.F ht⟩) hS.2.2 dX12_path_244
                  · have t_220 : ¬ (iI).toInt ≥ 0 := toI_nge c_220 rfl (by decide)
                    refine lv_iconst (v := (-1)) hx hb dX12_path_223 (by decide) ?_
                    refine W.widen (k := 0) (n := 0) (by decide +kernel) (by decide +kernel) ?_
                    exact W.iret (v := (-1)) hx hb hr (fun t9_ ht hW => ⟨⟨(-1), (th3, fa1), rfl, by (try dsimp only); exact Or.inr ⟨f3_3, ⟨by omega, fun e9 => f3_2 (Int32.toInt_inj.mp e9)⟩, by rw [es9, et9]; exact pA.near (ArO.val hAr) hDis hsN (show (fa1 sN).toInt < 536870912 from hnr sN hsN c_170) (Or.inr (Or.inr (Or.inl ⟨by omega, t_188, t_204, by decide⟩)))⟩, by rw [ht]; exact hP, hD⟩, hS.F ht⟩) hS.2.2 dX12_path_224
                · have t_204 : (iI).toInt = -3 := toI_nne c_204 rfl (by decide)
                  refine lv_aload_n hx hb dX12_path_207 rfl (lv_at hl 0 rfl) ?_
                  refine va_get (D := (dC, dI)) (ci := 12) (v := .ref (a 102)) (C := RX12) (T := TX12) (N := 163) (fs := fM (vS a (fT vi 0 th3) vj)) hx hb hts iwsRX12_path_in12 hown hK hP 0 rfl rfl 158 (by decide) (hts (.fieldLink RX12 333 "OptimaWorksModel" "far" "[I") (by decide +kernel)) (fun _ h9 => h9) rfl dX12_path_208 ?_
                  refine lv_iload_n hx hb dX12_path_211 rfl (lv_at hl 1 rfl) ?_
                  refine va_iald (cA := k 102) (n := 12) (f := fa1) hx hb hK hP 103 102 (WR_get 102 (by decide)) (TR_get 102 (by decide)) (vp_in_nI (show sN < 12 by omega) (by omega)) dX12_path_212 ?_
                  refine lv_topi (fun y2 hy2 => ?_)
                  obtain rfl : (fa1 sN) = y2 := (hy2.trans (by rw [nI_clamp (by omega)])).symm
                  refine lv_bipush (v := 64) hx hb dX12_path_213 (by decide) ?_
                  refine lv_irem hx hb dX12_path_215 (by decide) ?_
                  refine lv_iconst (v := 1) hx hb dX12_path_216 (by decide) ?_
                  refine lv_iadd hx hb dX12_path_217 ?_
                  refine W.widen (k := 0) (n := 0) (by decide +kernel) (by decide +kernel) ?_
                  exact W.iret (v := (((fa1 sN) - (fa1 sN) / 64 * 64) + 1)) hx hb hr (fun t9_ ht hW => ⟨⟨(((fa1 sN) - (fa1 sN) / 64 * 64) + 1), (th3, fa1), rfl, by (try dsimp only); exact Or.inr ⟨f3_3, ⟨by omega, fun e9 => f3_2 (Int32.toInt_inj.mp e9)⟩, by rw [es9, et9]; exact pA.near (ArO.val hAr) hDis hsN (show (fa1 sN).toInt < 536870912 from hnr sN hsN c_170) (Or.inr (Or.inl ⟨t_204, rm64 hs0.1⟩))⟩, by rw [ht]; exact hP, hD⟩, hS.F ht⟩) hS.2.2 dX12_path_218
              · have t_188 : (iI).toInt = -2 := toI_nne c_188 rfl (by decide)
                refine lv_aload_n hx hb dX12_path_191 rfl (lv_at hl 0 rfl) ?_
                refine va_get (D := (dC, dI)) (ci := 12) (v := .ref (a 102)) (C := RX12) (T := TX12) (N := 163) (fs := fM (vS a (fT vi 0 th3) vj)) hx hb hts iwsRX12_path_in12 hown hK hP 0 rfl rfl 158 (by decide) (hts (.fieldLink RX12 333 "OptimaWorksModel" "far" "[I") (by decide +kernel)) (fun _ h9 => h9) rfl dX12_path_192 ?_
                refine lv_iload_n hx hb dX12_path_195 rfl (lv_at hl 1 rfl) ?_
                refine va_iald (cA := k 102) (n := 12) (f := fa1) hx hb hK hP 103 102 (WR_get 102 (by decide)) (TR_get 102 (by decide)) (vp_in_nI (show sN < 12 by omega) (by omega)) dX12_path_196 ?_
                refine lv_topi (fun y3 hy3 => ?_)
                obtain rfl : (fa1 sN) = y3 := (hy3.trans (by rw [nI_clamp (by omega)])).symm
                refine lv_bipush (v := 64) hx hb dX12_path_197 (by decide) ?_
                refine lv_idiv hx hb dX12_path_199 (by decide) ?_
                refine W.widen (k := 0) (n := 0) (by decide +kernel) (by decide +kernel) ?_
                exact W.iret (v := ((fa1 sN) / 64)) hx hb hr (fun t9_ ht hW => ⟨⟨((fa1 sN) / 64), (th3, fa1), rfl, by (try dsimp only); exact Or.inr ⟨f3_3, ⟨by omega, fun e9 => f3_2 (Int32.toInt_inj.mp e9)⟩, by rw [es9, et9]; exact pA.near (ArO.val hAr) hDis hsN (show (fa1 sN).toInt < 536870912 from hnr sN hsN c_170) (Or.inl ⟨t_188, dv64 hs0.1⟩)⟩, by rw [ht]; exact hP, hD⟩, hS.F ht⟩) hS.2.2 dX12_path_200
            · have t_170 : ((fa1 sN)).toInt = 536870912 := toI_nne c_170 rfl (by decide)
              refine lv_iload_n hx hb dX12_path_173 rfl (lv_at hl 3 rfl) ?_
              refine lv_bipush (v := (-3)) hx hb dX12_path_174 (by decide) ?_
              refine lv_icmp_ne (tgt := 183) hx hb dX12_path_176 (by decide) (fun c_176 => ?_) (fun c_176 => ?_)
              · have t_176 : (iI).toInt ≠ -3 := toI_ne c_176 rfl (by decide)
                refine lv_iconst (v := (-1)) hx hb dX12_path_183 (by decide) ?_
                refine W.widen (k := 0) (n := 0) (by decide +kernel) (by decide +kernel) ?_
                exact W.iret (v := (-1)) hx hb hr (fun t9_ ht hW => ⟨⟨(-1), (th3, fa1), rfl, by (try dsimp only); exact Or.inr ⟨f3_3, ⟨by omega, fun e9 => f3_2 (Int32.toInt_inj.mp e9)⟩, by rw [es9, et9]; exact pA.far (ArO.val hAr) hDis (show ¬ (fa1 sN).toInt < 536870912 from by omega) (Or.inr ⟨t_176, by decide⟩)⟩, by rw [ht]; exact hP, hD⟩, hS.F ht⟩) hS.2.2 dX12_path_184
              · have t_176 : (iI).toInt = -3 := toI_nne c_176 rfl (by decide)
                refine lv_iconst (v := 0) hx hb dX12_path_179 (by decide) ?_
                refine lv_goto (tgt := 184) hx hb dX12_path_180 (by decide) ?_
                refine W.widen (k := 0) (n := 0) (by decide +kernel) (by decide +kernel) ?_
                exact W.iret (v := 0) hx hb hr (fun t9_ ht hW => ⟨⟨0, (th3, fa1), rfl, by (try dsimp only); exact Or.inr ⟨f3_3, ⟨by omega, fun e9 => f3_2 (Int32.toInt_inj.mp e9)⟩, by rw [es9, et9]; exact pA.far (ArO.val hAr) hDis (show ¬ (fa1 sN).toInt < 536870912 from by omega) (Or.inl ⟨t_176, by decide⟩)⟩, by rw [ht]; exact hP, hD⟩, hS.F ht⟩) hS.2.2 dX12_path_184
          · have t_52 : ¬ (lz).toInt = 0 := toI_neq c_52 rfl (by decide)
            refine lv_iconst (v := 0) hx hb dX12_path_55 (by decide) ?_
            refine lv_istore hx hb dX12_path_56 hl (by decide) rfl (fun ls (hl : lv_has ls _ ([(4, .int 0), (0, .ref h0), (1, .int (nI sN)), (2, .int (nI tN)), (3, .int iI)])) => ?_)
            refine lv_iconst (v := 0) hx hb dX12_path_58 (by decide) ?_
            refine lv_istore hx hb dX12_path_59 hl (by decide) rfl (fun ls (hl : lv_has ls _ ([(5, .int 0), (4, .int 0), (0, .ref h0), (1, .int (nI sN)), (2, .int (nI tN)), (3, .int iI)])) => ?_)
            have hl : lv_has _ _ ([(0, .ref h0), (1, .int (nI sN)), (2, .int (nI tN)), (3, .int iI), (4, .int 0), (5, .int (nI 0))]) := lv_sub hl [2, 3, 4, 5, 1, 0] rfl
            refine (fun (loop : ∀ (n9 : Nat) (a5 : Nat) (l2 : Int32) (fa2 : Nat → Int32) (H : Heap) (locs : List Loc) (ls : Array Slot), (a5 ≤ ar) → (FaO (vF 95) (vF 96) (vF 98) ar tN fa2) → ((l2 = 0 ∧ sPr fa2 ≤ sPr fa1) ∨ sPr fa2 < sPr fa1) → (l2 = 0 → FaC (vF 95) (vF 96) (vF 98) a5 fa2) →  (ar < a5 + n9) → va_P (dC, dI) vwCl (WR a k h0 (fT vi 0 th3) vj (fT vF 102 fa2) vG) H → va_D A (WR a k h0 (fT vi 0 th3) vj (fT vF 102 fa2) vG) → va_S A s.heap H locs → lv_has ls 7 [(0, .ref h0), (1, .int (nI sN)), (2, .int (nI tN)), (3, .int iI), (4, .int l2), (5, .int (nI a5))] → W p l e _ s m _ below meth c H locs 0 0 _ (F0 m 61 ls [])) => loop (ar + 1) 0 0 fa1 _ _ _ (by omega) (hFa1) (Or.inl ⟨rfl, Nat.le_refl _⟩) (fun _ a9 x9 y9 h1 => absurd h1 (by omega)) (by omega) hP hD hS hl) ?_
            intro n9
            induction n9 with
            | zero => intro a5 l2 fa2 H locs ls ha5 hFa2 hM2 hCl hf9; exact False.elim (by omega)
            | succ n9 ih61_3 =>
              intro a5 l2 fa2 H locs ls ha5 hFa2 hM2 hCl hf61_3 hP hD hS hl
              refine lv_iload hx hb dX12_path_61 (lv_at hl 5 rfl) ?_
              refine lv_aload_n hx hb dX12_path_63 rfl (lv_at hl 0 rfl) ?_
              refine va_get (D := (dC, dI)) (ci := 12) (v := .int (vi 150)) (C := RX12) (T := TX12) (N := 163) (fs := fM (vS a (fT vi 0 th3) vj)) hx hb hts iwsRX12_path_in12 hown hK hP 0 rfl rfl 150 (by decide) (hts (.fieldLink RX12 1069 "OptimaWorksModel" "arcs" "I") (by decide +kernel)) (fun _ h9 => h9) rfl dX12_path_64 ?_
              refine lv_topi (fun y4 hy4 => ?_)
              obtain rfl : (nI ar) = y4 := (hy4.trans (har)).symm
              refine lv_icmp_ge (tgt := 158) hx hb dX12_path_67 (by decide) (fun c_67 => ?_) (fun c_67 => ?_)
              · have t_67 : ((a5 : Nat) : Int) ≥ ((ar : Nat) : Int) := toI_ge c_67 (nI_toInt (by omega)) (nI_toInt (by omega))
                refine lv_goto (tgt := 50) hx hb dX12_path_158 (by decide) ?_
                have hl : lv_has _ _ ([(0, .ref h0), (1, .int (nI sN)), (2, .int (nI tN)), (3, .int iI), (4, .int l2)]) := lv_sub hl [0, 1, 2, 3, 4] rfl
                exact ih50_1 l2 fa2 _ _ _ (hFa2) (fun h9 => by (have h8 := hCl h9); rw [show a5 = ar by omega] at h8; exact h8) (by (have h8 := hfx.resolve_left (fun h => c_52 h.1)); rcases hM2 with ⟨h1, h2⟩ | h1; (exact Or.inl ⟨h1, by omega⟩); (exact Or.inr (by omega))) hP hD hS hl
              · have t_67 : ¬ ((a5 : Nat) : Int) ≥ ((ar : Nat) : Int) := toI_nge c_67 (nI_toInt (by omega)) (nI_toInt (by omega))
                obtain ⟨x5, yB, hx5, hyB, hxy5, ex5, ey5, hr5, hc5⟩ := hAr a5 (by omega)
                have hby := hFa2.bd hyB
                have hbx := hFa2.bd hx5
                have hm64 : (64 * vF 98 a5).toInt = 64 * (vF 98 a5).toInt := mul64 hc5
                have hcs : (fa2 yB + 64 * vF 98 a5 + 1).toInt = (fa2 yB).toInt + 64 * (vF 98 a5).toInt + 1 := by rw [addB (by rw [addB (by omega) (by omega)]; omega) (by decide), addB (by omega) (by omega), hm64]; rfl
                refine lv_aload_n hx hb dX12_path_70 rfl (lv_at hl 0 rfl) ?_
                refine va_get (D := (dC, dI)) (ci := 12) (v := .ref (a 102)) (C := RX12) (T := TX12) (N := 163) (fs := fM (vS a (fT vi 0 th3) vj)) hx hb hts iwsRX12_path_in12 hown hK hP 0 rfl rfl 158 (by decide) (hts (.fieldLink RX12 333 "OptimaWorksModel" "far" "[I") (by decide +kernel)) (fun _ h9 => h9) rfl dX12_path_71 ?_
                refine lv_aload_n hx hb dX12_path_74 rfl (lv_at hl 0 rfl) ?_
                refine va_get (D := (dC, dI)) (ci := 12) (v := .ref (a 96)) (C := RX12) (T := TX12) (N := 163) (fs := fM (vS a (fT vi 0 th3) vj)) hx hb hts iwsRX12_path_in12 hown hK hP 0 rfl rfl 152 (by decide) (hts (.fieldLink RX12 315 "OptimaWorksModel" "arcTo" "[I") (by decide +kernel)) (fun _ h9 => h9) rfl dX12_path_75 ?_
                refine lv_iload hx hb dX12_path_78 (lv_at hl 5 rfl) ?_
                refine va_iald (cA := k 96) (n := 40) (f := (vF 96)) hx hb hK hP 97 96 (WR_get 96 (by decide)) (TR_get 96 (by decide)) (vp_in_nI (show a5 < 40 by omega) (by omega)) dX12_path_80 ?_
                refine lv_topi (fun y5 hy5 => ?_)
                obtain rfl : ((vF 96) a5) = y5 := (hy5.trans (by rw [nI_clamp (by omega)])).symm
                refine lv_topi (fun y6 hy6 => ?_)
                obtain rfl : (nI yB) = y6 := (hy6.trans (ey5)).symm
                refine va_iald (cA := k 102) (n := 12) (f := fa2) hx hb hK hP 103 102 (WR_get 102 (by decide)) (TR_get 102 (by decide)) (vp_in_nI (show yB < 12 by omega) (by omega)) dX12_path_81 ?_
                refine lv_topi (fun y7 hy7 => ?_)
                obtain rfl : (fa2 yB) = y7 := (hy7.trans (by rw [nI_clamp (by omega)])).symm
                refine lv_bipush (v := 64) hx hb dX12_path_82 (by decide) ?_
                refine lv_aload_n hx hb dX12_path_84 rfl (lv_at hl 0 rfl) ?_
                refine va_get (D := (dC, dI)) (ci := 12) (v := .ref (a 98)) (C := RX12) (T := TX12) (N := 163) (fs := fM (vS a (fT vi 0 th3) vj)) hx hb hts iwsRX12_path_in12 hown hK hP 0 rfl rfl 154 (by decide) (hts (.fieldLink RX12 321 "OptimaWorksModel" "arcCost" "[I") (by decide +kernel)) (fun _ h9 => h9) rfl dX12_path_85 ?_
                refine lv_iload hx hb dX12_path_88 (lv_at hl 5 rfl) ?_
                refine va_iald (cA := k 98) (n := 40) (f := (vF 98)) hx hb hK hP 99 98 (WR_get 98 (by decide)) (TR_get 98 (by decide)) (vp_in_nI (show a5 < 40 by omega) (by omega)) dX12_path_90 ?_
                refine lv_topi (fun y8 hy8 => ?_)
                obtain rfl : ((vF 98) a5) = y8 := (hy8.trans (by rw [nI_clamp (by omega)])).symm
                refine lv_imul hx hb dX12_path_91 ?_
                refine lv_iadd hx hb dX12_path_92 ?_
                refine lv_iconst (v := 1) hx hb dX12_path_93 (by decide) ?_
                refine lv_iadd hx hb dX12_path_94 ?_
                refine lv_istore hx hb dX12_path_95 hl (by decide) rfl (fun ls (hl : lv_has ls _ ([(6, .int (((fa2 yB) + (64 * ((vF 98) a5))) + 1)), (0, .ref h0), (1, .int (nI sN)), (2, .int (nI tN)), (3, .int iI), (4, .int l2), (5, .int (nI a5))])) => ?_)
                refine lv_aload_n hx hb dX12_path_97 rfl (lv_at hl 1 rfl) ?_
                refine va_get (D := (dC, dI)) (ci := 12) (v := .ref (a 102)) (C := RX12) (T := TX12) (N := 163) (fs := fM (vS a (fT vi 0 th3) vj)) hx hb hts iwsRX12_path_in12 hown hK hP 0 rfl rfl 158 (by decide) (hts (.fieldLink RX12 333 "OptimaWorksModel" "far" "[I") (by decide +kernel)) (fun _ h9 => h9) rfl dX12_path_98 ?_
                refine lv_aload_n hx hb dX12_path_101 rfl (lv_at hl 1 rfl) ?_
                refine va_get (D := (dC, dI)) (ci := 12) (v := .ref (a 96)) (C := RX12) (T := TX12) (N := 163) (fs := fM (vS a (fT vi 0 th3) vj)) hx hb hts iwsRX12_path_in12 hown hK hP 0 rfl rfl 152 (by decide) (hts (.fieldLink RX12 315 "OptimaWorksModel" "arcTo" "[I") (by decide +kernel)) (fun _ h9 => h9) rfl dX12_path_102 ?_
                refine lv_iload hx hb dX12_path_105 (lv_at hl 6 rfl) ?_
                refine va_iald (cA := k 96) (n := 40) (f := (vF 96)) hx hb hK hP 97 96 (WR_get 96 (by decide)) (TR_get 96 (by decide)) (vp_in_nI (show a5 < 40 by omega) (by omega)) dX12_path_107 ?_
                refine lv_topi (fun y9 hy9 => ?_)
                obtain rfl : ((vF 96) a5) = y9 := (hy9.trans (by rw [nI_clamp (by omega)])).symm
                refine lv_topi (fun y10 hy10 => ?_)
                obtain rfl : (nI yB) = y10 := (hy10.trans (ey5)).symm
                refine va_iald (cA := k 102) (n := 12) (f := fa2) hx hb hK hP 103 102 (WR_get 102 (by decide)) (TR_get 102 (by decide)) (vp_in_nI (show yB < 12 by omega) (by omega)) dX12_path_108 ?_
                refine lv_topi (fun y11 hy11 => ?_)
                obtain rfl : (fa2 yB) = y11 := (hy11.trans (by rw [nI_clamp (by omega)])).symm
                refine lv_ldcw (v := 536870912) hx hb hown (hts (.constant RX12 1072 536870912) (by decide +kernel)) dX12_path_109 ?_
                refine lv_icmp_eq (tgt := 152) hx hb dX12_path_112 (by decide) (fun c_112 => ?_) (fun c_112 => ?_)
                · have t_112 : ((fa2 yB)).toInt = 536870912 := toI_eq c_112 rfl (by decide)
                  refine lv_iinc (v := (nI (a5 + 1))) hx hb dX12_path_152 hl (k := 6) rfl (nI_add a5 1) (by decide) rfl (fun ls (hl : lv_has ls _ ([(5, .int (nI (a5 + 1))), (6, .int (((fa2 yB) + (64 * ((vF 98) a5))) + 1)), (0, .ref h0), (1, .int (nI sN)), (2, .int (nI tN)), (3, .int iI), (4, .int l2)])) => ?_)
                  refine lv_goto (tgt := 61) hx hb dX12_path_155 (by decide) ?_
                  have hl : lv_has _ _ ([(0, .ref h0), (1, .int (nI sN)), (2, .int (nI tN)), (3, .int iI), (4, .int l2), (5, .int (nI (a5 + 1)))]) := lv_sub hl [2, 3, 4, 5, 6, 0] rfl
                  exact ih61_3 (a5 + 1) l2 fa2 _ _ _ (by omega) (hFa2) (hM2) (fun h9 a9 x9 y9 h1 h2 h3 h4 h5 h6 => by by_cases e9 : a9 = a5; (subst e9; (have ezx : x9 = x5 := (nI_eq (by omega) (by omega)).mp (h4.symm.trans ex5)); (have ezy : y9 = yB := (nI_eq (by omega) (by omega)).mp (h5.symm.trans ey5)); exact absurd (show fa2 y9 = 536870912 by rw [ezy]; exact c_112) h6); (exact hCl h9 a9 x9 y9 (by omega) h2 h3 h4 h5 h6)) (by omega) hP hD hS hl
                · have t_112 : ¬ ((fa2 yB)).toInt = 536870912 := toI_neq c_112 rfl (by decide)
                  refine lv_iload hx hb dX12_path_115 (lv_at hl 0 rfl) ?_
                  refine lv_aload_n hx hb dX12_path_117 rfl (lv_at hl 1 rfl) ?_
                  refine va_get (D := (dC, dI)) (ci := 12) (v := .ref (a 102)) (C := RX12) (T := TX12) (N := 163) (fs := fM (vS a (fT vi 0 th3) vj)) hx hb hts iwsRX12_path_in12 hown hK hP 0 rfl rfl 158 (by decide) (hts (.fieldLink RX12 333 "OptimaWorksModel" "far" "[I") (by decide +kernel)) (fun _ h9 => h9) rfl dX12_path_118 ?_
                  refine lv_aload_n hx hb dX12_path_121 rfl (lv_at hl 1 rfl) ?_
                  refine va_get (D := (dC, dI)) (ci := 12) (v := .ref (a 95)) (C := RX12) (T := TX12) (N := 163) (fs := fM (vS a (fT vi 0 th3) vj)) hx hb hts iwsRX12_path_in12 hown hK hP 0 rfl rfl 151 (by decide) (hts (.fieldLink RX12 312 "OptimaWorksModel" "arcFrom" "[I") (by decide +kernel)) (fun _ h9 => h9) rfl dX12_path_122 ?_
                  refine lv_iload hx hb dX12_path_125 (lv_at hl 6 rfl) ?_
                  refine va_iald (cA := k 95) (n := 40) (f := (vF 95)) hx hb hK hP 96 95 (WR_get 95 (by decide)) (TR_get 95 (by decide)) (vp_in_nI (show a5 < 40 by omega) (by omega)) dX12_path_127 ?_
                  refine lv_topi (fun y12 hy12 => ?_)
                  obtain rfl : ((vF 95) a5) = y12 := (hy12.trans (by rw [nI_clamp (by omega)])).symm
                  refine lv_topi (fun y13 hy13 => ?_)
                  obtain rfl : (nI x5) = y13 := (hy13.trans (ex5)).symm
                  refine va_iald (cA := k 102) (n := 12) (f := fa2) hx hb hK hP 103 102 (WR_get 102 (by decide)) (TR_get 102 (by decide)) (vp_in_nI (show x5 < 12 by omega) (by omega)) dX12_path_128 ?_
                  refine lv_topi (fun y14 hy14 => ?_)
                  obtain rfl : (fa2 x5) = y14 := (hy14.trans (by rw [nI_clamp (by omega)])).symm
                  refine lv_icmp_lt (tgt := 135) hx hb dX12_path_129 (by decide) (fun c_129 => ?_) (fun c_129 => ?_)
                  · have t_129 : ((((fa2 yB) + (64 * ((vF 98) a5))) + 1)).toInt < ((fa2 x5)).toInt := toI_lt c_129 rfl rfl
                    obtain ⟨hFa9, hS9⟩ := hFa2.relax (fa2 := upd fa2 (nI x5).toNatClampNeg (fa2 yB + 64 * vF 98 a5 + 1)) (a := a5) (by omega) htN hx5 hyB hxy5 ex5 ey5 hc5 c_112 (by omega) (by rw [upd_at (by omega), if_pos rfl]; exact hcs) (fun w9 hw9 => by rw [upd_at (by omega), if_neg hw9])
                    refine lv_aload_n hx hb dX12_path_135 rfl (lv_at hl 1 rfl) ?_
                    refine va_get (D := (dC, dI)) (ci := 12) (v := .ref (a 102)) (C := RX12) (T := TX12) (N := 163) (fs := fM (vS a (fT vi 0 th3) vj)) hx hb hts iwsRX12_path_in12 hown hK hP 0 rfl rfl 158 (by decide) (hts (.fieldLink RX12 333 "OptimaWorksModel" "far" "[I") (by decide +kernel)) (fun _ h9 => h9) rfl dX12_path_136 ?_
                    refine lv_aload_n hx hb dX12_path_139 rfl (lv_at hl 1 rfl) ?_
                    refine va_get (D := (dC, dI)) (ci := 12) (v := .ref (a 95)) (C := RX12) (T := TX12) (N := 163) (fs := fM (vS a (fT vi 0 th3) vj)) hx hb hts iwsRX12_path_in12 hown hK hP 0 rfl rfl 151 (by decide) (hts (.fieldLink RX12 312 "OptimaWorksModel" "arcFrom" "[I") (by decide +kernel)) (fun _ h9 => h9) rfl dX12_path_140 ?_
                    refine lv_iload hx hb dX12_path_143 (lv_at hl 6 rfl) ?_
                    refine va_iald (cA := k 95) (n := 40) (f := (vF 95)) hx hb hK hP 96 95 (WR_get 95 (by decide)) (TR_get 95 (by decide)) (vp_in_nI (show a5 < 40 by omega) (by omega)) dX12_path_145 ?_
                    refine lv_topi (fun y15 hy15 => ?_)
                    obtain rfl : ((vF 95) a5) = y15 := (hy15.trans (by rw [nI_clamp (by omega)])).symm
                    refine lv_topi (fun y16 hy16 => ?_)
                    obtain rfl : (nI x5) = y16 := (hy16.trans (ex5)).symm
                    refine lv_iload hx hb dX12_path_146 (lv_at hl 0 rfl) ?_
                    refine va_iast (cA := k 102) (n := 12) (f := fa2) hx hb hK hP hD hS 103 102 (WR_get 102 (by decide)) (TR_get 102 (by decide)) (vp_in_nI (show x5 < 12 by omega) (by omega)) dX12_path_148 (fun H locs hP hD hS => ?_)
                    have e9 : fT vF 102 (upd fa2 ((nI x5)).toNatClampNeg (((fa2 yB) + (64 * ((vF 98) a5))) + 1)) = fT (fT vF 102 fa2) 102 (upd fa2 ((nI x5)).toNatClampNeg (((fa2 yB) + (64 * ((vF 98) a5))) + 1)) := (fT_sm _ _ _ _).symm
                    have hP : va_P (dC, dI) vwCl (WR a k h0 (fT vi 0 th3) vj (fT vF 102 (upd fa2 ((nI x5)).toNatClampNeg (((fa2 yB) + (64 * ((vF 98) a5))) + 1))) vG) H := by rw [e9, ← WR_F 102 (by decide) _ rfl]; exact hP
                    have hD : va_D A (WR a k h0 (fT vi 0 th3) vj (fT vF 102 (upd fa2 ((nI x5)).toNatClampNeg (((fa2 yB) + (64 * ((vF 98) a5))) + 1))) vG) := by rw [e9, ← WR_F 102 (by decide) _ rfl]; exact hD
                    clear e9
                    refine lv_iconst (v := 1) hx hb dX12_path_149 (by decide) ?_
                    refine lv_istore hx hb dX12_path_150 hl (by decide) rfl (fun ls (hl : lv_has ls _ ([(4, .int 1), (6, .int (((fa2 yB) + (64 * ((vF 98) a5))) + 1)), (0, .ref h0), (1, .int (nI sN)), (2, .int (nI tN)), (3, .int iI), (5, .int (nI a5))])) => ?_)
                    refine lv_iinc (v := (nI (a5 + 1))) hx hb dX12_path_152 hl (k := 6) rfl (nI_add a5 1) (by decide) rfl (fun ls (hl : lv_has ls _ ([(5, .int (nI (a5 + 1))), (4, .int 1), (6, .int (((fa2 yB) + (64 * ((vF 98) a5))) + 1)), (0, .ref h0), (1, .int (nI sN)), (2, .int (nI tN)), (3, .int iI)])) => ?_)
                    refine lv_goto (tgt := 61) hx hb dX12_path_155 (by decide) ?_
                    have hl : lv_has _ _ ([(0, .ref h0), (1, .int (nI sN)), (2, .int (nI tN)), (3, .int iI), (4, .int 1), (5, .int (nI (a5 + 1)))]) := lv_sub hl [3, 4, 5, 6, 1, 0] rfl
                    exact ih61_3 (a5 + 1) 1 (upd fa2 ((nI x5)).toNatClampNeg (((fa2 yB) + (64 * ((vF 98) a5))) + 1)) _ _ _ (by omega) (hFa9) (by rcases hM2 with ⟨h1, h2⟩ | h1; (exact Or.inr (by omega)); (exact Or.inr (by omega))) (fun h9 => absurd h9 (by decide)) (by omega) hP hD hS hl
                  · have t_129 : ¬ ((((fa2 yB) + (64 * ((vF 98) a5))) + 1)).toInt < ((fa2 x5)).toInt := toI_nlt c_129 rfl rfl
                    refine lv_goto (tgt := 152) hx hb dX12_path_132 (by decide) ?_
                    refine lv_iinc (v := (nI (a5 + 1))) hx hb dX12_path_152 hl (k := 6) rfl (nI_add a5 1) (by decide) rfl (fun ls (hl : lv_has ls _ ([(5, .int (nI (a5 + 1))), (6, .int (((fa2 yB) + (64 * ((vF 98) a5))) + 1)), (0, .ref h0), (1, .int (nI sN)), (2, .int (nI tN)), (3, .int iI), (4, .int l2)])) => ?_)
                    refine lv_goto (tgt := 61) hx hb dX12_path_155 (by decide) ?_
                    have hl : lv_has _ _ ([(0, .ref h0), (1, .int (nI sN)), (2, .int (nI tN)), (3, .int iI), (4, .int l2), (5, .int (nI (a5 + 1)))]) := lv_sub hl [2, 3, 4, 5, 6, 0] rfl
                    exact ih61_3 (a5 + 1) l2 fa2 _ _ _ (by omega) (hFa2) (hM2) (fun h9 a9 x9 y9 h1 h2 h3 h4 h5 h6 => by by_cases e9 : a9 = a5; (subst e9; (have ezx : x9 = x5 := (nI_eq (by omega) (by omega)).mp (h4.symm.trans ex5)); (have ezy : y9 = yB := (nI_eq (by omega) (by omega)).mp (h5.symm.trans ey5)); rw [ezx, ezy]; omega); (exact hCl h9 a9 x9 y9 (by omega) h2 h3 h4 h5 h6)) (by omega) hP hD hS hl
      · have t_18 : ¬ ((n1 : Nat) : Int) ≥ 12 := toI_nge c_18 (nI_toInt (by omega)) (by decide)
        refine lv_aload_n hx hb dX12_path_21 rfl (lv_at hl 0 rfl) ?_
        refine va_get (D := (dC, dI)) (ci := 12) (v := .ref (a 102)) (C := RX12) (T := TX12) (N := 163) (fs := fM (vS a (fT vi 0 th3) vj)) hx hb hts iwsRX12_path_in12 hown hK hP 0 rfl rfl 158 (by decide) (hts (.fieldLink RX12 333 "OptimaWorksModel" "far" "[I") (by decide +kernel)) (fun _ h9 => h9) rfl dX12_path_22 ?_
        refine lv_iload hx hb dX12_path_25 (lv_at hl 4 rfl) ?_
        refine lv_iload hx hb dX12_path_27 (lv_at hl 4 rfl) ?_
        refine lv_iload_n hx hb dX12_path_29 rfl (lv_at hl 2 rfl) ?_
        refine W.cut (pc := 40) (fun H locs ls stk => ∃ (v9 : Int32), (v9 = if n1 = tN then 0 else 536870912) ∧  stk = [.int v9, .int (nI n1), .ref (a 102)] ∧ va_P (dC, dI) vwCl (WR a k h0 (fT vi 0 th3) vj (fT vF 102 f1) vG) H ∧ va_D A (WR a k h0 (fT vi 0 th3) vj (fT vF 102 f1) vG) ∧ va_S A s.heap H locs ∧ lv_has ls 7 [(0, .ref h0), (1, .int (nI sN)), (2, .int (nI tN)), (3, .int iI), (4, .int (nI n1))]) (fun join1 => ?_) ?_
        · refine lv_icmp_ne (tgt := 37) hx hb dX12_path_30 (by decide) (fun c_30 => ?_) (fun c_30 => ?_)
          · have t_30 : ((n1 : Nat) : Int) ≠ ((tN : Nat) : Int) := toI_ne c_30 (nI_toInt (by omega)) (nI_toInt (by omega))
            refine lv_ldcw (v := 536870912) hx hb hown (hts (.constant RX12 1072 536870912) (by decide +kernel)) dX12_path_37 ?_
            have hl : lv_has _ _ ([(0, .ref h0), (1, .int (nI sN)), (2, .int (nI tN)), (3, .int iI), (4, .int (nI n1))]) := lv_sub hl [0, 1, 2, 3, 4] rfl
            exact join1 _ _ _ _ ⟨536870912, by rw [if_neg (fun e9 => c_30 (by rw [e9]))], rfl, hP, hD, hS, hl⟩
          · have t_30 : ((n1 : Nat) : Int) = ((tN : Nat) : Int) := toI_nne c_30 (nI_toInt (by omega)) (nI_toInt (by omega))
            refine lv_iconst (v := 0) hx hb dX12_path_33 (by decide) ?_
            refine lv_goto (tgt := 40) hx hb dX12_path_34 (by decide) ?_
            have hl : lv_has _ _ ([(0, .ref h0), (1, .int (nI sN)), (2, .int (nI tN)), (3, .int iI), (4, .int (nI n1))]) := lv_sub hl [0, 1, 2, 3, 4] rfl
            exact join1 _ _ _ _ ⟨0, by rw [if_pos ((nI_eq (by omega) (by omega)).mp c_30)], rfl, hP, hD, hS, hl⟩
        · rintro H locs ls stk ⟨v9, hj9, rfl, hP, hD, hS, hl⟩
          refine va_iast (cA := k 102) (n := 12) (f := f1) hx hb hK hP hD hS 103 102 (WR_get 102 (by decide)) (TR_get 102 (by decide)) (vp_in_nI (show n1 < 12 by omega) (by omega)) dX12_path_40 (fun H locs hP hD hS => ?_)
          have e9 : fT vF 102 (upd f1 ((nI n1)).toNatClampNeg v9) = fT (fT vF 102 f1) 102 (upd f1 ((nI n1)).toNatClampNeg v9) := (fT_sm _ _ _ _).symm
          have hP : va_P (dC, dI) vwCl (WR a k h0 (fT vi 0 th3) vj (fT vF 102 (upd f1 ((nI n1)).toNatClampNeg v9)) vG) H := by rw [e9, ← WR_F 102 (by decide) _ rfl]; exact hP
          have hD : va_D A (WR a k h0 (fT vi 0 th3) vj (fT vF 102 (upd f1 ((nI n1)).toNatClampNeg v9)) vG) := by rw [e9, ← WR_F 102 (by decide) _ rfl]; exact hD
          clear e9
          refine lv_iinc (v := (nI (n1 + 1))) hx hb dX12_path_41 hl (k := 4) rfl (nI_add n1 1) (by decide) rfl (fun ls (hl : lv_has ls _ ([(4, .int (nI (n1 + 1))), (0, .ref h0), (1, .int (nI sN)), (2, .int (nI tN)), (3, .int iI)])) => ?_)
          refine lv_goto (tgt := 14) hx hb dX12_path_44 (by decide) ?_
          have hl : lv_has _ _ ([(0, .ref h0), (1, .int (nI sN)), (2, .int (nI tN)), (3, .int iI), (4, .int (nI (n1 + 1)))]) := lv_sub hl [1, 2, 3, 4, 0] rfl
          exact ih14 (n1 + 1) (upd f1 ((nI n1)).toNatClampNeg v9) _ _ _ (by omega) (fun n hn => by rw [upd_at (by omega)]; by_cases e9 : n = n1; (rw [if_pos e9, e9]; exact hj9); (rw [if_neg e9]; exact hz n (by omega))) (by omega) hP hD hS hl
  · refine lv_if_ne (tgt := 11) hx hb dX12_path_6 (by decide) (fun c9 => absurd c9 (by decide)) (fun _ => ?_)
    refine lv_iconst (v := 0) hx hb dX12_path_9 (by decide) ?_
    refine W.widen (k := 0) (n := 0) (by decide +kernel) (by decide +kernel) ?_
    have e9 : fT vF 102 (vF 102) = vF := fT_id _ _ (rfl)
    have hP : va_P (dC, dI) vwCl (WR a k h0 (fT vi 0 th3) vj (fT vF 102 (vF 102)) vG) H := by rw [e9]; exact hP
    have hD : va_D A (WR a k h0 (fT vi 0 th3) vj (fT vF 102 (vF 102)) vG) := by rw [e9]; exact hD
    clear e9
    exact W.iret (v := 0) hx hb hr (fun t9_ ht hW => ⟨⟨0, (th3, (vF 102)), rfl, by (try dsimp only); exact Or.inl f3_0, by rw [ht]; exact hP, hD⟩, hS.F ht⟩) hS.2.2 dX12_path_10

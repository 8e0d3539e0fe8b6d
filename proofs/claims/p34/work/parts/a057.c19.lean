theorem dX12_least_0 : decode cX12_least 0 = .ok (.aload_n 0, 1) := dk_42 (by decide +kernel)
theorem dX12_least_1 : decode cX12_least 1 = .ok (.getfield 829, 3) := dk_180 (by decide +kernel)
theorem dX12_least_4 : decode cX12_least 4 = .ok (.ifCond .eq 22, 3) := dk_153 (by decide +kernel)
theorem dX12_least_7 : decode cX12_least 7 = .ok (.aload_n 0, 1) := dk_42 (by decide +kernel)
theorem dX12_least_8 : decode cX12_least 8 = .ok (.getfield 197, 3) := dk_180 (by decide +kernel)
theorem dX12_least_11 : decode cX12_least 11 = .ok (.iload_n 1, 1) := dk_27 (by decide +kernel)
theorem dX12_least_12 : decode cX12_least 12 = .ok (.iaload, 1) := dk_46 (by decide +kernel)
theorem dX12_least_13 : decode cX12_least 13 = .ok (.iconst 1, 1) := dk_4 (by decide +kernel)
theorem dX12_least_14 : decode cX12_least 14 = .ok (.if_icmp .ne 12, 3) := dk_160 (by decide +kernel)
theorem dX12_least_17 : decode cX12_least 17 = .ok (.aload_n 0, 1) := dk_42 (by decide +kernel)
theorem dX12_least_18 : decode cX12_least 18 = .ok (.getfield 233, 3) := dk_180 (by decide +kernel)
theorem dX12_least_21 : decode cX12_least 21 = .ok (.iload_n 1, 1) := dk_27 (by decide +kernel)
theorem dX12_least_22 : decode cX12_least 22 = .ok (.iaload, 1) := dk_46 (by decide +kernel)
theorem dX12_least_23 : decode cX12_least 23 = .ok (.goto 9, 3) := dk_167 (by decide +kernel)
theorem dX12_least_26 : decode cX12_least 26 = .ok (.aload_n 0, 1) := dk_42 (by decide +kernel)
theorem dX12_least_27 : decode cX12_least 27 = .ok (.getfield 191, 3) := dk_180 (by decide +kernel)
theorem dX12_least_30 : decode cX12_least 30 = .ok (.iload_n 1, 1) := dk_27 (by decide +kernel)
theorem dX12_least_31 : decode cX12_least 31 = .ok (.iaload, 1) := dk_46 (by decide +kernel)
theorem dX12_least_32 : decode cX12_least 32 = .ok (.ireturn, 1) := dk_172 (by decide +kernel)
def wsRX12_least : List Cond := .code yX12_least cX12_least 2 (some .int) :: ([.fieldLink RX12 829 "OptimaWorksModel" "fixes" "Z", .fieldLink RX12 191 "OptimaWorksModel" "low" "[I", .fieldLink RX12 197 "OptimaWorksModel" "whole" "[I", .fieldLink RX12 233 "OptimaWorksModel" "value" "[I"] ++ wsX120)
theorem iwsRX12_least_in12 : ∀ w ∈ wsX120, w ∈ wsRX12_least := fun _ h => List.mem_cons_of_mem _ (List.mem_append_right _ h)
theorem gdwsRX12_least : wsRX12_least.all goodWord = true := gdC rfl (gdA (by decide +kernel : ([.fieldLink RX12 829 "OptimaWorksModel" "fixes" "Z", .fieldLink RX12 191 "OptimaWorksModel" "low" "[I", .fieldLink RX12 197 "OptimaWorksModel" "whole" "[I", .fieldLink RX12 233 "OptimaWorksModel" "value" "[I"] : List Cond).all goodWord = true) gdwsX120)
set_option maxHeartbeats 4000000 in
set_option maxRecDepth 100000 in
/-- least(k) -/
theorem r_X12_least (l : Launch) (dC : Nat → ClassId) (dI : Nat → Nat → Nat) (a : Nat → Nat) (k : Nat → ClassId) (h0 : Nat) (vi : Nat → Int32) (vj : Nat → Int64) (vF : Nat → Nat → Int32) (vG : Nat → Nat → Int64) (kn : Nat) (gq : Nat) (hkn : kn < 9) (hM : MdlB vF gq) (sz : Nat) : Met l yX12_least wsRX12_least ({ frames := 0, cells := 0, slots := 0, locals := 0 }) (va_Pc [.ref h0, .int (nI kn)] (fun U => U.heap.size = sz ∧ va_P (dC, dI) vwCl (WR a k h0 vi vj vF vG) U.heap ∧ va_K (dC, dI) vwCl (tX12 k) U ∧ va_D (fun _ => True) (WR a k h0 vi vj vF vG))) (va_Qi (fun (r : Int32) (u : Unit) => (-999 ≤ (r).toInt ∧ (r).toInt ≤ 999)) (fun (u : Unit) t => va_P (dC, dI) vwCl (WR a k h0 vi vj vF vG) t.heap ∧ va_D (va_A (WR a k h0 vi vj vF vG) sz) (WR a k h0 vi vj vF vG)) (va_A (WR a k h0 vi vj vF vG) sz)) 0 0 (va_A (WR a k h0 vi vj vF vG) sz) := by
  refine Met.ofW (cc := cX12_least) (maxL := 2) (ret := (some .int)) (by decide) rfl ?_
  intro p e s m args below meth c s₁ B hml hv
  obtain ⟨rfl, hsz, hP, hK, hD0⟩ := hv
  have hx := B.exec
  have hb := B.bytes
  have hr := B.returns
  have hts := atoms_spec (ws := wsRX12_least) B.pre
  have hown : s.vm.findClass RX12 = some m.cls := findClass_of_methodNamed B.named
  have hlocks := B.notSynchronized
  subst hsz
  have hD := hD0.self (sz := s.heap.size)
  generalize hAe : va_A (WR a k h0 vi vj vF vG) s.heap.size = A at hD ⊢
  have hA : ∀ q : Nat, s.heap.size ≤ q → A q := fun q h => by rw [← hAe]; exact Or.inr h
  have hS : va_S A s.heap s.heap [] := va_S.rf
  have hl := lv_entry ([.ref h0, .int (nI kn)]) (n := 2) (Nat.le_of_ble_eq_true rfl)
  rw [lg_entry_eq]
  generalize (lg_sl ([.ref h0, .int (nI kn)]) ++ List.replicate (2 - (lg_sl ([.ref h0, .int (nI kn)])).length) Slot.unset).toArray = ls at hl ⊢
  have hl : lv_has ls 2 [(0, .ref h0), (1, .int (nI kn))] := hl
  refine lv_aload_n hx hb dX12_least_0 rfl (lv_at hl 0 rfl) ?_
  refine va_get (D := (dC, dI)) (ci := 12) (v := .int (vi 116)) (C := RX12) (T := TX12) (N := 163) (fs := fM (vS a vi vj)) hx hb hts iwsRX12_least_in12 hown hK hP 0 rfl rfl 116 (by decide) (hts (.fieldLink RX12 829 "OptimaWorksModel" "fixes" "Z") (by decide +kernel)) (fun _ h9 => h9) rfl dX12_least_1 ?_
  refine lv_if_eq (tgt := 26) hx hb dX12_least_4 (by decide) (fun c_4 => ?_) (fun c_4 => ?_)
  · have t_4 : ((vi 116)).toInt = 0 := toI_eq c_4 rfl (by decide)
    refine lv_aload_n hx hb dX12_least_26 rfl (lv_at hl 0 rfl) ?_
    refine va_get (D := (dC, dI)) (ci := 12) (v := .ref (a 56)) (C := RX12) (T := TX12) (N := 163) (fs := fM (vS a vi vj)) hx hb hts iwsRX12_least_in12 hown hK hP 0 rfl rfl 96 (by decide) (hts (.fieldLink RX12 191 "OptimaWorksModel" "low" "[I") (by decide +kernel)) (fun _ h9 => h9) rfl dX12_least_27 ?_
    refine lv_iload_n hx hb dX12_least_30 rfl (lv_at hl 1 rfl) ?_
    refine va_iald (cA := k 56) (n := 9) (f := (vF 56)) hx hb hK hP 57 56 (WR_get 56 (by decide)) (TR_get 56 (by decide)) (vp_in_nI (show kn < 9 by omega) (by omega)) dX12_least_31 ?_
    refine lv_topi (fun y1 hy1 => ?_)
    obtain rfl : ((vF 56) kn) = y1 := (hy1.trans (by rw [nI_clamp (by omega)])).symm
    refine W.widen (k := 0) (n := 0) (by decide +kernel) (by decide +kernel) ?_
    exact W.iret (v := ((vF 56) kn)) hx hb hr (fun t9_ ht hW => ⟨⟨((vF 56) kn), (), rfl, by (try dsimp only); exact hM.1 kn hkn, by rw [ht]; exact hP, hD⟩, hS.F ht⟩) hS.2.2 dX12_least_32
  · have t_4 : ¬ ((vi 116)).toInt = 0 := toI_neq c_4 rfl (by decide)
    refine lv_aload_n hx hb dX12_least_7 rfl (lv_at hl 0 rfl) ?_
    refine va_get (D := (dC, dI)) (ci := 12) (v := .ref (a 58)) (C := RX12) (T := TX12) (N := 163) (fs := fM (vS a vi vj)) hx hb hts iwsRX12_least_in12 hown hK hP 0 rfl rfl 98 (by decide) (hts (.fieldLink RX12 197 "OptimaWorksModel" "whole" "[I") (by decide +kernel)) (fun _ h9 => h9) rfl dX12_least_8 ?_
    refine lv_iload_n hx hb dX12_least_11 rfl (lv_at hl 1 rfl) ?_
    refine va_iald (cA := k 58) (n := 9) (f := (vF 58)) hx hb hK hP 59 58 (WR_get 58 (by decide)) (TR_get 58 (by decide)) (vp_in_nI (show kn < 9 by omega) (by omega)) dX12_least_12 ?_
    refine lv_topi (fun y2 hy2 => ?_)
    obtain rfl : ((vF 58) kn) = y2 := (hy2.trans (by rw [nI_clamp (by omega)])).symm
    refine lv_iconst (v := 1) hx hb dX12_least_13 (by decide) ?_
    refine lv_icmp_ne (tgt := 26) hx hb dX12_least_14 (by decide) (fun c_14 => ?_) (fun c_14 => ?_)
    · have t_14 : (((vF 58) kn)).toInt ≠ 1 := toI_ne c_14 rfl (by decide)
      refine lv_aload_n hx hb dX12_least_26 rfl (lv_at hl 0 rfl) ?_
      refine va_get (D := (dC, dI)) (ci := 12) (v := .ref (a 56)) (C := RX12) (T := TX12) (N := 163) (fs := fM (vS a vi vj)) hx hb hts iwsRX12_least_in12 hown hK hP 0 rfl rfl 96 (by decide) (hts (.fieldLink RX12 191 "OptimaWorksModel" "low" "[I") (by decide +kernel)) (fun _ h9 => h9) rfl dX12_least_27 ?_
      refine lv_iload_n hx hb dX12_least_30 rfl (lv_at hl 1 rfl) ?_
      refine va_iald (cA := k 56) (n := 9) (f := (vF 56)) hx hb hK hP 57 56 (WR_get 56 (by decide)) (TR_get 56 (by decide)) (vp_in_nI (show kn < 9 by omega) (by omega)) dX12_least_31 ?_
      refine lv_topi (fun y3 hy3 => ?_)
      obtain rfl : ((vF 56) kn) = y3 := (hy3.trans (by rw [nI_clamp (by omega)])).symm
      refine W.widen (k := 0) (n := 0) (by decide +kernel) (by decide +kernel) ?_
      exact W.iret (v := ((vF 56) kn)) hx hb hr (fun t9_ ht hW => ⟨⟨((vF 56) kn), (), rfl, by (try dsimp only); exact hM.1 kn hkn, by rw [ht]; exact hP, hD⟩, hS.F ht⟩) hS.2.2 dX12_least_32
    · have t_14 : (((vF 58) kn)).toInt = 1 := toI_nne c_14 rfl (by decide)
      refine lv_aload_n hx hb dX12_least_17 rfl (lv_at hl 0 rfl) ?_
      refine va_get (D := (dC, dI)) (ci := 12) (v := .ref (a 70)) (C := RX12) (T := TX12) (N := 163) (fs := fM (vS a vi vj)) hx hb hts iwsRX12_least_in12 hown hK hP 0 rfl rfl 115 (by decide) (hts (.fieldLink RX12 233 "OptimaWorksModel" "value" "[I") (by decide +kernel)) (fun _ h9 => h9) rfl dX12_least_18 ?_
      refine lv_iload_n hx hb dX12_least_21 rfl (lv_at hl 1 rfl) ?_
      refine va_iald (cA := k 70) (n := 9) (f := (vF 70)) hx hb hK hP 71 70 (WR_get 70 (by decide)) (TR_get 70 (by decide)) (vp_in_nI (show kn < 9 by omega) (by omega)) dX12_least_22 ?_
      refine lv_topi (fun y4 hy4 => ?_)
      obtain rfl : ((vF 70) kn) = y4 := (hy4.trans (by rw [nI_clamp (by omega)])).symm
      refine lv_goto (tgt := 32) hx hb dX12_least_23 (by decide) ?_
      refine W.widen (k := 0) (n := 0) (by decide +kernel) (by decide +kernel) ?_
      exact W.iret (v := ((vF 70) kn)) hx hb hr (fun t9_ ht hW => ⟨⟨((vF 70) kn), (), rfl, by (try dsimp only); exact hM.2.2.2.2.2.2 kn hkn, by rw [ht]; exact hP, hD⟩, hS.F ht⟩) hS.2.2 dX12_least_32
theorem dX12_wayRow_0 : decode cX12_wayRow 0 = .ok (.aload_n 0, 1) := dk_42 (by decide +kernel)
theorem dX12_wayRow_1 : decode cX12_wayRow 1 = .ok (.invokevirtual 823, 3) := dk_182 (by decide +kernel)
theorem dX12_wayRow_4 : decode cX12_wayRow 4 = .ok (.istore_n 3, 1) := dk_62 (by decide +kernel)
theorem dX12_wayRow_5 : decode cX12_wayRow 5 = .ok (.aload_n 0, 1) := dk_42 (by decide +kernel)
theorem dX12_wayRow_6 : decode cX12_wayRow 6 = .ok (.getfield 203, 3) := dk_180 (by decide +kernel)
theorem dX12_wayRow_9 : decode cX12_wayRow 9 = .ok (.bipush 9, 2) := dk_16 (by decide +kernel)
theorem dX12_wayRow_11 : decode cX12_wayRow 11 = .ok (.iload_n 1, 1) := dk_27 (by decide +kernel)
theorem dX12_wayRow_12 : decode cX12_wayRow 12 = .ok (.imul, 1) := dk_104 (by decide +kernel)
theorem dX12_wayRow_13 : decode cX12_wayRow 13 = .ok (.iaload, 1) := dk_46 (by decide +kernel)
theorem dX12_wayRow_14 : decode cX12_wayRow 14 = .ok (.i2l, 1) := dk_133 (by decide +kernel)
theorem dX12_wayRow_15 : decode cX12_wayRow 15 = .ok (.lstore 4, 2) := dk_55 (by decide +kernel)
theorem dX12_wayRow_17 : decode cX12_wayRow 17 = .ok (.iconst 0, 1) := dk_3 (by decide +kernel)
theorem dX12_wayRow_18 : decode cX12_wayRow 18 = .ok (.istore 6, 2) := dk_54 (by decide +kernel)
theorem dX12_wayRow_20 : decode cX12_wayRow 20 = .ok (.iload 6, 2) := dk_21 (by decide +kernel)
theorem dX12_wayRow_22 : decode cX12_wayRow 22 = .ok (.aload_n 0, 1) := dk_42 (by decide +kernel)
theorem dX12_wayRow_23 : decode cX12_wayRow 23 = .ok (.getfield 774, 3) := dk_180 (by decide +kernel)
theorem dX12_wayRow_26 : decode cX12_wayRow 26 = .ok (.if_icmp .ge 57, 3) := dk_162 (by decide +kernel)
theorem dX12_wayRow_29 : decode cX12_wayRow 29 = .ok (.aload_n 0, 1) := dk_42 (by decide +kernel)
theorem dX12_wayRow_30 : decode cX12_wayRow 30 = .ok (.getfield 203, 3) := dk_180 (by decide +kernel)
theorem dX12_wayRow_33 : decode cX12_wayRow 33 = .ok (.bipush 9, 2) := dk_16 (by decide +kernel)
theorem dX12_wayRow_35 : decode cX12_wayRow 35 = .ok (.iload_n 1, 1) := dk_27 (by decide +kernel)
theorem dX12_wayRow_36 : decode cX12_wayRow 36 = .ok (.imul, 1) := dk_104 (by decide +kernel)
theorem dX12_wayRow_37 : decode cX12_wayRow 37 = .ok (.iconst 1, 1) := dk_4 (by decide +kernel)
theorem dX12_wayRow_38 : decode cX12_wayRow 38 = .ok (.iadd, 1) := dk_96 (by decide +kernel)
theorem dX12_wayRow_39 : decode cX12_wayRow 39 = .ok (.iload 6, 2) := dk_21 (by decide +kernel)
theorem dX12_wayRow_41 : decode cX12_wayRow 41 = .ok (.iadd, 1) := dk_96 (by decide +kernel)
theorem dX12_wayRow_42 : decode cX12_wayRow 42 = .ok (.iaload, 1) := dk_46 (by decide +kernel)
theorem dX12_wayRow_43 : decode cX12_wayRow 43 = .ok (.i2l, 1) := dk_133 (by decide +kernel)
theorem dX12_wayRow_44 : decode cX12_wayRow 44 = .ok (.lstore 7, 2) := dk_55 (by decide +kernel)
theorem dX12_wayRow_46 : decode cX12_wayRow 46 = .ok (.aload_n 0, 1) := dk_42 (by decide +kernel)
theorem dX12_wayRow_47 : decode cX12_wayRow 47 = .ok (.aload_n 0, 1) := dk_42 (by decide +kernel)
theorem dX12_wayRow_48 : decode cX12_wayRow 48 = .ok (.iload_n 3, 1) := dk_29 (by decide +kernel)
theorem dX12_wayRow_49 : decode cX12_wayRow 49 = .ok (.iload 6, 2) := dk_21 (by decide +kernel)
theorem dX12_wayRow_51 : decode cX12_wayRow 51 = .ok (.invokevirtual 405, 3) := dk_182 (by decide +kernel)
theorem dX12_wayRow_54 : decode cX12_wayRow 54 = .ok (.iload_n 2, 1) := dk_28 (by decide +kernel)
theorem dX12_wayRow_55 : decode cX12_wayRow 55 = .ok (.i2l, 1) := dk_133 (by decide +kernel)
theorem dX12_wayRow_56 : decode cX12_wayRow 56 = .ok (.lload 7, 2) := dk_22 (by decide +kernel)
theorem dX12_wayRow_58 : decode cX12_wayRow 58 = .ok (.lmul, 1) := dk_105 (by decide +kernel)
theorem dX12_wayRow_59 : decode cX12_wayRow 59 = .ok (.invokevirtual 369, 3) := dk_182 (by decide +kernel)
theorem dX12_wayRow_62 : decode cX12_wayRow 62 = .ok (.lload 4, 2) := dk_22 (by decide +kernel)
theorem dX12_wayRow_64 : decode cX12_wayRow 64 = .ok (.lload 7, 2) := dk_22 (by decide +kernel)
theorem dX12_wayRow_66 : decode cX12_wayRow 66 = .ok (.aload_n 0, 1) := dk_42 (by decide +kernel)
theorem dX12_wayRow_67 : decode cX12_wayRow 67 = .ok (.iload 6, 2) := dk_21 (by decide +kernel)
theorem dX12_wayRow_69 : decode cX12_wayRow 69 = .ok (.invokevirtual 826, 3) := dk_182 (by decide +kernel)
theorem dX12_wayRow_72 : decode cX12_wayRow 72 = .ok (.i2l, 1) := dk_133 (by decide +kernel)
theorem dX12_wayRow_73 : decode cX12_wayRow 73 = .ok (.lmul, 1) := dk_105 (by decide +kernel)
theorem dX12_wayRow_74 : decode cX12_wayRow 74 = .ok (.lsub, 1) := dk_101 (by decide +kernel)
theorem dX12_wayRow_75 : decode cX12_wayRow 75 = .ok (.lstore 4, 2) := dk_55 (by decide +kernel)
theorem dX12_wayRow_77 : decode cX12_wayRow 77 = .ok (.iinc 6 1, 3) := dk_132 (by decide +kernel)
theorem dX12_wayRow_80 : decode cX12_wayRow 80 = .ok (.goto (-60), 3) := dk_167 (by decide +kernel)
theorem dX12_wayRow_83 : decode cX12_wayRow 83 = .ok (.aload_n 0, 1) := dk_42 (by decide +kernel)
theorem dX12_wayRow_84 : decode cX12_wayRow 84 = .ok (.aload_n 0, 1) := dk_42 (by decide +kernel)
theorem dX12_wayRow_85 : decode cX12_wayRow 85 = .ok (.iload_n 3, 1) := dk_29 (by decide +kernel)
theorem dX12_wayRow_86 : decode cX12_wayRow 86 = .ok (.aload_n 0, 1) := dk_42 (by decide +kernel)
theorem dX12_wayRow_87 : decode cX12_wayRow 87 = .ok (.getfield 396, 3) := dk_180 (by decide +kernel)
theorem dX12_wayRow_90 : decode cX12_wayRow 90 = .ok (.invokevirtual 405, 3) := dk_182 (by decide +kernel)
theorem dX12_wayRow_93 : decode cX12_wayRow 93 = .ok (.iload_n 2, 1) := dk_28 (by decide +kernel)
theorem dX12_wayRow_94 : decode cX12_wayRow 94 = .ok (.i2l, 1) := dk_133 (by decide +kernel)
theorem dX12_wayRow_95 : decode cX12_wayRow 95 = .ok (.lload 4, 2) := dk_22 (by decide +kernel)
theorem dX12_wayRow_97 : decode cX12_wayRow 97 = .ok (.lmul, 1) := dk_105 (by decide +kernel)
theorem dX12_wayRow_98 : decode cX12_wayRow 98 = .ok (.invokevirtual 369, 3) := dk_182 (by decide +kernel)
theorem dX12_wayRow_101 : decode cX12_wayRow 101 = .ok (.return_, 1) := dk_177 (by decide +kernel)
def wsRX12_wayRow : List Cond := .code yX12_wayRow cX12_wayRow 9 none :: ([.fieldLink RX12 203 "OptimaWorksModel" "wayNumber" "[I", .fieldLink RX12 774 "OptimaWorksModel" "variables" "I", .fieldLink RX12 396 "OptimaWorksModel" "columns" "I"] ++ wsX120 ++ (wsV RX12 823 RX12 yX12_newLine wsRX12_newLine) ++ (wsV RX12 405 RX12 yX12_at wsRX12_at) ++ (wsV RX12 369 RX12 yX12_put wsRX12_put) ++ (wsV RX12 826 RX12 yX12_least wsRX12_least))
theorem iwsRX12_wayRow_in12 : ∀ w ∈ wsX120, w ∈ wsRX12_wayRow := fun _ h => List.mem_cons_of_mem _ (List.mem_append_left _ (List.mem_append_left _ (List.mem_append_left _ (List.mem_append_left _ (List.mem_append_right _ h)))))
theorem gwsRX12_wayRow_0 : GoodIn wsRX12_wayRow (wsV RX12 823 RX12 yX12_newLine wsRX12_newLine) := goodIn_sub (fun _ h => List.mem_cons_of_mem _ (List.mem_append_left _ (List.mem_append_left _ (List.mem_append_left _ (List.mem_append_right _ h))))) (gdV (by decide +kernel) gdwsRX12_newLine)
theorem gwsRX12_wayRow_1 : GoodIn wsRX12_wayRow (wsV RX12 405 RX12 yX12_at wsRX12_at) := goodIn_sub (fun _ h => List.mem_cons_of_mem _ (List.mem_append_left _ (List.mem_append_left _ (List.mem_append_right _ h)))) (gdV (by decide +kernel) gdwsRX12_at)
theorem gwsRX12_wayRow_2 : GoodIn wsRX12_wayRow (wsV RX12 369 RX12 yX12_put wsRX12_put) := goodIn_sub (fun _ h => List.mem_cons_of_mem _ (List.mem_append_left _ (List.mem_append_right _ h))) (gdV (by decide +kernel) gdwsRX12_put)
theorem gwsRX12_wayRow_3 : GoodIn wsRX12_wayRow (wsV RX12 826 RX12 yX12_least wsRX12_least) := goodIn_sub (fun _ h => List.mem_cons_of_mem _ (List.mem_append_right _ h)) (gdV (by decide +kernel) gdwsRX12_least)
theorem gdwsRX12_wayRow : wsRX12_wayRow.all goodWord = true := gdC rfl (gdA (gdA (gdA (gdA (gdA (by decide +kernel : ([.fieldLink RX12 203 "OptimaWorksModel" "wayNumber" "[I", .fieldLink RX12 774 "OptimaWorksModel" "variables" "I", .fieldLink RX12 396 "OptimaWorksModel" "columns" "I"] : List Cond).all goodWord = true) gdwsX120) (gdV (by decide +kernel) gdwsRX12_newLine)) (gdV (by decide +kernel) gdwsRX12_at)) (gdV (by decide +kernel) gdwsRX12_put)) (gdV (by decide +kernel) gdwsRX12_least))
set_option maxHeartbeats 4000000 in
set_option maxRecDepth 100000 in
/-- wayRow(w, how) -/
theorem r_X12_wayRow (l : Launch) (dC : Nat → ClassId) (dI : Nat → Nat → Nat) (a : Nat → Nat) (k : Nat → ClassId) (h0 : Nat) (vi : Nat → Int32) (vj : Nat → Int64) (vF : Nat → Nat → Int32) (vG : Nat → Nat → Int64) (wn : Nat) (hw : Int32) (hI : Int) (C : Nat) (R : Nat) (gq : Nat) (mg : Nat → Int) (hBg : Bg (vF 0) mg) (hC : vi 5 = nI C) (hR : vi 6 = nI R) (hG : vi 7 = 0) (hv9 : vi 90 = nI (C - 1)) (hC9 : 0 < C ∧ C ≤ 9) (hR40 : R ≤ 40) (hBl : BldL C R mg (vF 5)) (hM : MdlB vF gq) (hwn : wn < 39) (hhI : (hw).toInt = hI) (hI1 : hI = 1 ∨ hI = -1) (sz : Nat) : Met l yX12_wayRow wsRX12_wayRow ({ frames := 3, cells := 0, slots := 0, locals := 70 }) (va_Pc [.ref h0, .int (nI wn), .int hw] (fun U => U.heap.size = sz ∧ va_P (dC, dI) vwCl (WR a k h0 vi vj vF vG) U.heap ∧ va_K (dC, dI) vwCl (tX12 k) U ∧ va_D (fun _ => True) (WR a k h0 vi vj vF vG))) (va_Qv (fun (u : (Nat → Int32) × (Nat → Int)) => (Bg (u.1) (u.2)) ∧ (BldL C (R + 1) (u.2) (upd (vF 5) (nI R).toNatClampNeg (nI (C + R)))) ∧ (∀ q, (q < 30 ∨ 1000 ≤ q) → (u.2) q = mg q)) (fun (u : (Nat → Int32) × (Nat → Int)) t => va_P (dC, dI) vwCl (WR a k h0 (fT vi 6 (nI (R + 1))) vj (fT (fT vF 0 (u.1)) 5 (upd (vF 5) (nI R).toNatClampNeg (nI (C + R)))) vG) t.heap ∧ va_D (va_A (WR a k h0 vi vj vF vG) sz) (WR a k h0 (fT vi 6 (nI (R + 1))) vj (fT (fT vF 0 (u.1)) 5 (upd (vF 5) (nI R).toNatClampNeg (nI (C + R)))) vG)) (va_A (WR a k h0 vi vj vF vG) sz)) 0 0 (va_A (WR a k h0 vi vj vF vG) sz) := by
  refine Met.ofW (cc := cX12_wayRow) (maxL := 9) (ret := none) (by decide) rfl ?_
  intro p e s m args below meth c s₁ B hml hv
  obtain ⟨rfl, hsz, hP, hK, hD0⟩ := hv
  have hx := B.exec
  have hb := B.bytes
  have hr := B.returns
  have hts := atoms_spec (ws := wsRX12_wayRow) B.pre
  have hown : s.vm.findClass RX12 = some m.cls := findClass_of_methodNamed B.named
  have hlocks := B.notSynchronized
  subst hsz
  have hD := hD0.self (sz := s.heap.size)
  generalize hAe : va_A (WR a k h0 vi vj vF vG) s.heap.size = A at hD ⊢
  have hA : ∀ q : Nat, s.heap.size ≤ q → A q := fun q h => by rw [← hAe]; exact Or.inr h
  have hS : va_S A s.heap s.heap [] := va_S.rf
  have hl := lv_entry ([.ref h0, .int (nI wn), .int hw]) (n := 9) (Nat.le_of_ble_eq_true rfl)
  rw [lg_entry_eq]
  generalize (lg_sl ([.ref h0, .int (nI wn), .int hw]) ++ List.replicate (9 - (lg_sl ([.ref h0, .int (nI wn), .int hw])).length) Slot.unset).toArray = ls at hl ⊢
  have hl : lv_has ls 9 [(0, .ref h0), (1, .int (nI wn)), (2, .int hw)] := hl
  have hmul : R * (C + 1) ≤ 40 * 10 := Nat.mul_le_mul hR40 (by omega)
  have hsd0 := hM.2.2.1 wn hwn
  refine lv_aload_n hx hb dX12_wayRow_0 rfl (lv_at hl 0 rfl) ?_
  have hFc := allFree hD hS hA
  refine va_calli (va_runV (As := []) (rest := []) ⟨hx, hb, hml, hown, hts⟩ (r_X12_newLine l dC dI a k h0 vi vj vF vG C R mg hBg (by first | assumption | decide | omega | rfl) (by first | assumption | decide | omega | rfl) (by first | assumption | decide | omega | rfl) (by first | assumption | decide | omega | rfl) (by omega) (by first | assumption | decide | omega | rfl) s.heap.size) (cwV 0 hts gwsRX12_wayRow_0 rfl rfl rfl (by decide +kernel) ⟨by decide +kernel, by decide +kernel⟩) ⟨fun a U g mk q => by obtain ⟨q0, q1, qP, qK, qD⟩ := q; exact ⟨q0, q1, qP, va_K.moved (u := U) (U := U.calling g mk a) (Vm.Alike.refl U.vm) qK, qD⟩, va_recv hK hP (ci := 12) (q0 := 0) rfl rfl, fun U hU9 hW => ⟨rfl, by rw [hU9], by rw [hU9]; exact hP, va_K.moved hW.alike hK, hD.weaken (fun _ _ _ _ => trivial)⟩⟩ rfl rfl hl.1 rfl (lv_room (Nat.le_of_ble_eq_true rfl)) dX12_wayRow_1 ⟨by decide +kernel, by decide +kernel⟩) hS (fun q _ h => hFc q h) hFc (fun r1 u t9_ H1 locs ht hvm hw9 hB9 hz1 hk1 hS => ?_)
  obtain ⟨g1, m21⟩ := u
  try dsimp only at hw9 hB9
  obtain ⟨hP1, hD1⟩ := hB9
  rw [ht] at hP1
  have hP := hP1
  have hD := hD1.weaken (fun _ q _ h => hFc q.1 h)
  generalize H1 = H at hP hS ⊢
  have hP : va_P (dC, dI) vwCl (WR a k h0 (fT vi 6 (nI (R + 1))) vj (fT (fT vF 0 g1) 5 (upd (vF 5) (nI R).toNatClampNeg (nI (C + R)))) vG) H := hP
  have hD : va_D A (WR a k h0 (fT vi 6 (nI (R + 1))) vj (fT (fT vF 0 g1) 5 (upd (vF 5) (nI R).toNatClampNeg (nI (C + R)))) vG) := hD
  obtain ⟨rfl, f1_0, f1_1, f1_2⟩ := hw9
  refine lv_istore_n hx hb dX12_wayRow_4 rfl hl (by decide) rfl (fun ls (hl : lv_has ls _ ([(3, .int (nI R)), (0, .ref h0), (1, .int (nI wn)), (2, .int hw)])) => ?_)
  refine lv_aload_n hx hb dX12_wayRow_5 rfl (lv_at hl 1 rfl) ?_
  refine va_get (D := (dC, dI)) (ci := 12) (v := .ref (a 60)) (C := RX12) (T := TX12) (N := 163) (fs := fM (vS a (fT vi 6 (nI (R + 1))) vj)) hx hb hts iwsRX12_wayRow_in12 hown hK hP 0 rfl rfl 100 (by decide) (hts (.fieldLink RX12 203 "OptimaWorksModel" "wayNumber" "[I") (by decide +kernel)) (fun _ h9 => h9) rfl dX12_wayRow_6 ?_
  refine lv_bipush (v := 9) hx hb dX12_wayRow_9 (by decide) ?_
  refine lv_iload_n hx hb dX12_wayRow_11 rfl (lv_at hl 2 rfl) ?_
  refine lv_imul hx hb dX12_wayRow_12 ?_
  refine lv_topi (fun y1 hy1 => ?_)
  obtain rfl : (nI (9 * wn)) = y1 := (hy1.trans (pk_mul 9 wn)).symm
  refine va_iald (cA := k 60) (n := 351) (f := (vF 60)) hx hb hK hP 61 60 (WR_get 60 (by decide)) (TR_get 60 (by decide)) (vp_in_nI (show (9 * wn) < 351 by omega) (by omega)) dX12_wayRow_13 ?_
  refine lv_topi (fun y2 hy2 => ?_)
  obtain rfl : ((vF 60) (9 * wn)) = y2 := (hy2.trans (by rw [nI_clamp (by omega)])).symm
  refine lv_i2l hx hb dX12_wayRow_14 rfl ?_
  refine lv_lstore hx hb dX12_wayRow_15 hl (by decide) rfl (fun ls (hl : lv_has ls _ ([(4, .long (((vF 60) (9 * wn))).toInt64), (3, .int (nI R)), (0, .ref h0), (1, .int (nI wn)), (2, .int hw)])) => ?_)
  refine lv_iconst (v := 0) hx hb dX12_wayRow_17 (by decide) ?_
  refine lv_istore hx hb dX12_wayRow_18 hl (by decide) rfl (fun ls (hl : lv_has ls _ ([(6, .int 0), (4, .long (((vF 60) (9 * wn))).toInt64), (3, .int (nI R)), (0, .ref h0), (1, .int (nI wn)), (2, .int hw)])) => ?_)
  have hl : lv_has _ _ ([(0, .ref h0), (1, .int (nI wn)), (2, .int hw), (3, .int (nI R)), (4, .long ((((vF 60) (9 * wn))).toInt64)), (6, .int (nI 0))]) := lv_sub hl [3, 4, 5, 2, 1, 0] rfl
  refine (fun (loop : ∀ (n9 : Nat) (k5 : Nat) (sd : Int64) (g1 : Nat → Int32) (m1 : Nat → Int) (H : Heap) (locs : List Loc) (ls : Array Slot), (Bg g1 m1) → (k5 ≤ C - 1) → (-(99999 + 98901 * (k5 : Int)) ≤ sd.toInt ∧ sd.toInt ≤ 99999 + 98901 * (k5 : Int)) → (∀ j, j < k5 → (m1 (30 + R * (C + 1) + j)).natAbs ≤ 99) → (∀ j, k5 ≤ j → j ≤ C → m1 (30 + R * (C + 1) + j) = if j = C - 1 then -1 else 0) → (∀ q, (q < 30 + R * (C + 1) ∨ 1000 ≤ q) → m1 q = mg q) →  (C - 1 < k5 + n9) → va_P (dC, dI) vwCl (WR a k h0 (fT vi 6 (nI (R + 1))) vj (fT (fT vF 0 g1) 5 (upd (vF 5) (nI R).toNatClampNeg (nI (C + R)))) vG) H → va_D A (WR a k h0 (fT vi 6 (nI (R + 1))) vj (fT (fT vF 0 g1) 5 (upd (vF 5) (nI R).toNatClampNeg (nI (C + R)))) vG) → va_S A s.heap H locs → lv_has ls 9 [(0, .ref h0), (1, .int (nI wn)), (2, .int hw), (3, .int (nI R)), (4, .long sd), (6, .int (nI k5))] → W p l e _ s m _ below meth c H locs 0 0 _ (F0 m 20 ls [])) => loop (C) 0 ((((vF 60) (9 * wn))).toInt64) g1 m21 _ _ _ (f1_0) (by omega) (by rw [i64T]; omega) (fun j hj => absurd hj (by omega)) (fun j h1 h2 => f1_1 j h2) (fun q hq => by (rw [f1_2 _ (by omega)])) (by omega) hP hD hS hl) ?_
  intro n9
  induction n9 with
  | zero => intro k5 sd g1 m1 H locs ls hB1 hk5 hsd hrow hrest ho hf9; exact False.elim (by omega)
  | succ n9 ih20 =>
    intro k5 sd g1 m1 H locs ls hB1 hk5 hsd hrow hrest ho hf20 hP hD hS hl
    refine lv_iload hx hb dX12_wayRow_20 (lv_at hl 5 rfl) ?_
    refine lv_aload_n hx hb dX12_wayRow_22 rfl (lv_at hl 0 rfl) ?_
    refine va_get (D := (dC, dI)) (ci := 12) (v := .int (vi 90)) (C := RX12) (T := TX12) (N := 163) (fs := fM (vS a (fT vi 6 (nI (R + 1))) vj)) hx hb hts iwsRX12_wayRow_in12 hown hK hP 0 rfl rfl 90 (by decide) (hts (.fieldLink RX12 774 "OptimaWorksModel" "variables" "I") (by decide +kernel)) (fun _ h9 => h9) rfl dX12_wayRow_23 ?_
    refine lv_topi (fun y3 hy3 => ?_)
    obtain rfl : (nI (C - 1)) = y3 := (hy3.trans (hv9)).symm
    refine lv_icmp_ge (tgt := 83) hx hb dX12_wayRow_26 (by decide) (fun c_26 => ?_) (fun c_26 => ?_)
    · have t_26 : ((k5 : Nat) : Int) ≥ (((C - 1) : Nat) : Int) := toI_ge c_26 (nI_toInt (by omega)) (nI_toInt (by omega))
      have ek : k5 = C - 1 := by omega
      have m98 := mulQ (x := hw.toInt64) (y := sd) (by rw [i64T]; omega) (by omega)
      have ec : (hw.toInt64 * sd).toInt = hI * sd.toInt := by rw [m98.1, i64T, hhI]
      have bc : (hI * sd.toInt).natAbs ≤ 1 * 900000 := mul_box (by omega) (by omega)
      refine lv_aload_n hx hb dX12_wayRow_83 rfl (lv_at hl 0 rfl) ?_
      refine lv_aload_n hx hb dX12_wayRow_84 rfl (lv_at hl 0 rfl) ?_
      refine lv_iload_n hx hb dX12_wayRow_85 rfl (lv_at hl 3 rfl) ?_
      refine lv_aload_n hx hb dX12_wayRow_86 rfl (lv_at hl 0 rfl) ?_
      refine va_get (D := (dC, dI)) (ci := 12) (v := .int (vi 5)) (C := RX12) (T := TX12) (N := 163) (fs := fM (vS a (fT vi 6 (nI (R + 1))) vj)) hx hb hts iwsRX12_wayRow_in12 hown hK hP 0 rfl rfl 5 (by decide) (hts (.fieldLink RX12 396 "OptimaWorksModel" "columns" "I") (by decide +kernel)) (fun _ h9 => h9) rfl dX12_wayRow_87 ?_
      refine lv_topi (fun y4 hy4 => ?_)
      obtain rfl : (nI C) = y4 := (hy4.trans (hC)).symm
      have hFc := allFree hD hS hA
      refine va_calli (va_runV (As := [.int (nI R), .int (nI C)]) (rest := [.ref h0]) ⟨hx, hb, hml, hown, hts⟩ (r_X12_at l dC dI a k h0 (fT vi 6 (nI (R + 1))) vj (fT (fT vF 0 g1) 5 (upd (vF 5) (nI R).toNatClampNeg (nI (C + R)))) vG R C C (by first | assumption | decide | omega | rfl) H.size) (cwV 2 hts gwsRX12_wayRow_1 rfl rfl rfl (by decide +kernel) ⟨by decide +kernel, by decide +kernel⟩) ⟨fun a U g mk q => by obtain ⟨q0, q1, qP, qK, qD⟩ := q; exact ⟨q0, q1, qP, va_K.moved (u := U) (U := U.calling g mk a) (Vm.Alike.refl U.vm) qK, qD⟩, va_recv hK hP (ci := 12) (q0 := 0) rfl rfl, fun U hU9 hW => ⟨rfl, by rw [hU9], by rw [hU9]; exact hP, va_K.moved hW.alike hK, hD.weaken (fun _ _ _ _ => trivial)⟩⟩ rfl rfl hl.1 rfl (lv_room (Nat.le_of_ble_eq_true rfl)) dX12_wayRow_90 ⟨by decide +kernel, by decide +kernel⟩) hS (fun q _ h => hFc q h) hFc (fun r90 u t9_ H1 locs ht hvm hw9 hB9 hz1 hk1 hS => ?_)
      obtain ⟨hP1, hD1⟩ := hB9
      rw [ht] at hP1
      have hP := hP1
      have hD := hD1.weaken (fun _ q _ h => hFc q.1 h)
      generalize H1 = H at hP hS ⊢
      have hP : va_P (dC, dI) vwCl (WR a k h0 (fT vi 6 (nI (R + 1))) vj (fT (fT vF 0 g1) 5 (upd (vF 5) (nI R).toNatClampNeg (nI (C + R)))) vG) H := hP
      have hD : va_D A (WR a k h0 (fT vi 6 (nI (R + 1))) vj (fT (fT vF 0 g1) 5 (upd (vF 5) (nI R).toNatClampNeg (nI (C + R)))) vG) := hD
      obtain rfl := hw9
      refine lv_iload_n hx hb dX12_wayRow_93 rfl (lv_at hl 2 rfl) ?_
      refine lv_i2l hx hb dX12_wayRow_94 rfl ?_
      refine lv_lload hx hb dX12_wayRow_95 (lv_at hl 4 rfl) ?_
      refine lv_lmul hx hb dX12_wayRow_97 ?_
      have hFc := allFree hD hS hA
      refine va_callv (va_runV (As := [.int (nI (30 + R * (C + 1) + C)), .long ((hw).toInt64 * sd)]) (rest := []) ⟨hx, hb, hml, hown, hts⟩ (b_X12_put l dC dI a k h0 (fT vi 6 (nI (R + 1))) vj (fT (fT vF 0 g1) 5 (upd (vF 5) (nI R).toNatClampNeg (nI (C + R)))) vG (30 + R * (C + 1) + C) ((hw).toInt64 * sd) (hI * (sd).toInt) m1 hB1 (by first | assumption | decide | omega | rfl) (ec) (by omega) H.size) (cwV 2 hts gwsRX12_wayRow_2 rfl rfl rfl (by decide +kernel) ⟨by decide +kernel, by decide +kernel⟩) ⟨fun a U g mk q => by obtain ⟨q0, q1, qP, qK, qD⟩ := q; exact ⟨q0, q1, qP, va_K.moved (u := U) (U := U.calling g mk a) (Vm.Alike.refl U.vm) qK, qD⟩, va_recv hK hP (ci := 12) (q0 := 0) rfl rfl, fun U hU9 hW => ⟨rfl, by rw [hU9], by rw [hU9]; exact hP, va_K.moved hW.alike hK, hD.weaken (fun _ _ _ _ => trivial)⟩⟩ rfl rfl hl.1 rfl (lv_room (Nat.le_of_ble_eq_true rfl)) dX12_wayRow_98 ⟨by decide +kernel, by decide +kernel⟩) hS (fun q _ h => hFc q h) hFc (fun u t9_ H1 locs ht hvm hw9 hB9 hz1 hk1 hS => ?_)
      obtain ⟨g98, hwit98⟩ : ∃ w9, w9 = u := ⟨u, rfl⟩
      subst hwit98
      obtain ⟨hP1, hD1⟩ := hB9
      rw [ht] at hP1
      have hP := hP1
      have hD := hD1.weaken (fun _ q _ h => hFc q.1 h)
      generalize H1 = H at hP hS ⊢
      have hP : va_P (dC, dI) vwCl (WR a k h0 (fT vi 6 (nI (R + 1))) vj (fT (fT (fT vF 0 g1) 5 (upd (vF 5) (nI R).toNatClampNeg (nI (C + R)))) 0 g98) vG) H := hP
      have hD : va_D A (WR a k h0 (fT vi 6 (nI (R + 1))) vj (fT (fT (fT vF 0 g1) 5 (upd (vF 5) (nI R).toNatClampNeg (nI (C + R)))) 0 g98) vG) := hD
      have e9 : fT (fT vF 0 g98) 5 (upd (vF 5) (nI R).toNatClampNeg (nI (C + R))) = fT (fT (fT vF 0 g1) 5 (upd (vF 5) (nI R).toNatClampNeg (nI (C + R)))) 0 g98 := ((fT_sw _ _ _ (Nat.ne_of_beq_eq_false rfl)).trans (congrArg (fun g9 => fT g9 5 (upd (vF 5) (nI R).toNatClampNeg (nI (C + R)))) (fT_sm _ _ _ _))).symm
      rw [← e9] at hP hD
      clear e9
      have hP : va_P (dC, dI) vwCl (WR a k h0 (fT vi 6 (nI (R + 1))) vj (fT (fT vF 0 g98) 5 (upd (vF 5) (nI R).toNatClampNeg (nI (C + R)))) vG) H := hP
      have hD : va_D A (WR a k h0 (fT vi 6 (nI (R + 1))) vj (fT (fT vF 0 g98) 5 (upd (vF 5) (nI R).toNatClampNeg (nI (C + R)))) vG) := hD
      have f98_0 := hw9
      try dsimp only at f98_0
      refine W.widen (k := 0) (n := 0) (by decide +kernel) (by decide +kernel) ?_
      exact W.vret hx hb hr (fun t9_ ht hW => ⟨⟨(g98, (fT m1 (30 + R * (C + 1) + C) (hI * (sd).toInt))), rfl, by (try dsimp only); exact ⟨f98_0, hBl.more (fun i2 hi2 => by rw [upd_at (by omega), if_neg (by omega)]) (fun p hp => by (rw [fT_ne _ _ (by omega)]); exact ho p (by omega)) (by omega) (by rw [upd_at (by omega), if_pos rfl]) (fun j hj => by (rw [fT_ne _ _ (by omega)]); exact hrow j (by omega)) (by rw [fT_ne _ _ (by omega), hrest (C - 1) (by omega) (by omega), if_pos rfl]) (by rw [fT_eq]; omega), fun q hq => by (rw [fT_ne _ _ (by omega)]); exact ho q (by omega)⟩, by rw [ht]; exact hP, hD⟩, hS.F ht⟩) hS.2.2 dX12_wayRow_101
    · have t_26 : ¬ ((k5 : Nat) : Int) ≥ (((C - 1) : Nat) : Int) := toI_nge c_26 (nI_toInt (by omega)) (nI_toInt (by omega))
      refine lv_aload_n hx hb dX12_wayRow_29 rfl (lv_at hl 0 rfl) ?_
      refine va_get (D := (dC, dI)) (ci := 12) (v := .ref (a 60)) (C := RX12) (T := TX12) (N := 163) (fs := fM (vS a (fT vi 6 (nI (R + 1))) vj)) hx hb hts iwsRX12_wayRow_in12 hown hK hP 0 rfl rfl 100 (by decide) (hts (.fieldLink RX12 203 "OptimaWorksModel" "wayNumber" "[I") (by decide +kernel)) (fun _ h9 => h9) rfl dX12_wayRow_30 ?_
      refine lv_bipush (v := 9) hx hb dX12_wayRow_33 (by decide) ?_
      refine lv_iload_n hx hb dX12_wayRow_35 rfl (lv_at hl 1 rfl) ?_
      refine lv_imul hx hb dX12_wayRow_36 ?_
      refine lv_topi (fun y5 hy5 => ?_)
      obtain rfl : (nI (9 * wn)) = y5 := (hy5.trans (pk_mul 9 wn)).symm
      refine lv_iconst (v := 1) hx hb dX12_wayRow_37 (by decide) ?_
      refine lv_iadd hx hb dX12_wayRow_38 ?_
      refine lv_topi (fun y6 hy6 => ?_)
      obtain rfl : (nI ((9 * wn) + 1)) = y6 := (hy6.trans (nI_add (9 * wn) 1)).symm
      refine lv_iload hx hb dX12_wayRow_39 (lv_at hl 5 rfl) ?_
      refine lv_iadd hx hb dX12_wayRow_41 ?_
      refine lv_topi (fun y7 hy7 => ?_)
      obtain rfl : (nI (((9 * wn) + 1) + k5)) = y7 := (hy7.trans (nI_add ((9 * wn) + 1) k5)).symm
      refine va_iald (cA := k 60) (n := 351) (f := (vF 60)) hx hb hK hP 61 60 (WR_get 60 (by decide)) (TR_get 60 (by decide)) (vp_in_nI (show (((9 * wn) + 1) + k5) < 351 by omega) (by omega)) dX12_wayRow_42 ?_
      refine lv_topi (fun y8 hy8 => ?_)
      obtain rfl : ((vF 60) (((9 * wn) + 1) + k5)) = y8 := (hy8.trans (by rw [nI_clamp (by omega)])).symm
      refine lv_i2l hx hb dX12_wayRow_43 rfl ?_
      refine lv_lstore hx hb dX12_wayRow_44 hl (by decide) rfl (fun ls (hl : lv_has ls _ ([(7, .long (((vF 60) (((9 * wn) + 1) + k5))).toInt64), (0, .ref h0), (1, .int (nI wn)), (2, .int hw), (3, .int (nI R)), (4, .long sd), (6, .int (nI k5))])) => ?_)
      have ba := hM.2.2.2.1 wn k5 hwn (by omega)
      have ea := mulI (x := hw) (y := (vF 60 (9 * wn + 1 + k5)))
      have bx : (hI * (vF 60 (9 * wn + 1 + k5)).toInt).natAbs ≤ 1 * 99 := mul_box (by omega) (by omega)
      refine lv_aload_n hx hb dX12_wayRow_46 rfl (lv_at hl 1 rfl) ?_
      refine lv_aload_n hx hb dX12_wayRow_47 rfl (lv_at hl 1 rfl) ?_
      refine lv_iload_n hx hb dX12_wayRow_48 rfl (lv_at hl 4 rfl) ?_
      refine lv_iload hx hb dX12_wayRow_49 (lv_at hl 6 rfl) ?_
      have hFc := allFree hD hS hA
      refine va_calli (va_runV (As := [.int (nI R), .int (nI k5)]) (rest := [.ref h0]) ⟨hx, hb, hml, hown, hts⟩ (r_X12_at l dC dI a k h0 (fT vi 6 (nI (R + 1))) vj (fT (fT vF 0 g1) 5 (upd (vF 5) (nI R).toNatClampNeg (nI (C + R)))) vG R k5 C (by first | assumption | decide | omega | rfl) H.size) (cwV 2 hts gwsRX12_wayRow_1 rfl rfl rfl (by decide +kernel) ⟨by decide +kernel, by decide +kernel⟩) ⟨fun a U g mk q => by obtain ⟨q0, q1, qP, qK, qD⟩ := q; exact ⟨q0, q1, qP, va_K.moved (u := U) (U := U.calling g mk a) (Vm.Alike.refl U.vm) qK, qD⟩, va_recv hK hP (ci := 12) (q0 := 0) rfl rfl, fun U hU9 hW => ⟨rfl, by rw [hU9], by rw [hU9]; exact hP, va_K.moved hW.alike hK, hD.weaken (fun _ _ _ _ => trivial)⟩⟩ rfl rfl hl.1 rfl (lv_room (Nat.le_of_ble_eq_true rfl)) dX12_wayRow_51 ⟨by decide +kernel, by decide +kernel⟩) hS (fun q _ h => hFc q h) hFc (fun r51 u t9_ H1 locs ht hvm hw9 hB9 hz1 hk1 hS => ?_)
      obtain ⟨hP1, hD1⟩ := hB9
      rw [ht] at hP1
      have hP := hP1
      have hD := hD1.weaken (fun _ q _ h => hFc q.1 h)
      generalize H1 = H at hP hS ⊢
      have hP : va_P (dC, dI) vwCl (WR a k h0 (fT vi 6 (nI (R + 1))) vj (fT (fT vF 0 g1) 5 (upd (vF 5) (nI R).toNatClampNeg (nI (C + R)))) vG) H := hP
      have hD : va_D A (WR a k h0 (fT vi 6 (nI (R + 1))) vj (fT (fT vF 0 g1) 5 (upd (vF 5) (nI R).toNatClampNeg (nI (C + R)))) vG) := hD
      obtain rfl := hw9
      refine lv_iload_n hx hb dX12_wayRow_54 rfl (lv_at hl 3 rfl) ?_
      refine lv_i2l hx hb dX12_wayRow_55 rfl ?_
      refine lv_lload hx hb dX12_wayRow_56 (lv_at hl 0 rfl) ?_
      refine lv_lmul hx hb dX12_wayRow_58 ?_
      have hFc := allFree hD hS hA
      refine va_callv (va_runV (As := [.int (nI (30 + R * (C + 1) + k5)), .long ((hw).toInt64 * (((vF 60) (((9 * wn) + 1) + k5))).toInt64)]) (rest := []) ⟨hx, hb, hml, hown, hts⟩ (b_X12_put l dC dI a k h0 (fT vi 6 (nI (R + 1))) vj (fT (fT vF 0 g1) 5 (upd (vF 5) (nI R).toNatClampNeg (nI (C + R)))) vG (30 + R * (C + 1) + k5) ((hw).toInt64 * (((vF 60) (((9 * wn) + 1) + k5))).toInt64) (hI * (vF 60 (9 * wn + 1 + k5)).toInt) m1 hB1 (by first | assumption | decide | omega | rfl) (by rw [ea, hhI]) (by omega) H.size) (cwV 2 hts gwsRX12_wayRow_2 rfl rfl rfl (by decide +kernel) ⟨by decide +kernel, by decide +kernel⟩) ⟨fun a U g mk q => by obtain ⟨q0, q1, qP, qK, qD⟩ := q; exact ⟨q0, q1, qP, va_K.moved (u := U) (U := U.calling g mk a) (Vm.Alike.refl U.vm) qK, qD⟩, va_recv hK hP (ci := 12) (q0 := 0) rfl rfl, fun U hU9 hW => ⟨rfl, by rw [hU9], by rw [hU9]; exact hP, va_K.moved hW.alike hK, hD.weaken (fun _ _ _ _ => trivial)⟩⟩ rfl rfl hl.1 rfl (lv_room (Nat.le_of_ble_eq_true rfl)) dX12_wayRow_59 ⟨by decide +kernel, by decide +kernel⟩) hS (fun q _ h => hFc q h) hFc (fun u t9_ H1 locs ht hvm hw9 hB9 hz1 hk1 hS => ?_)
      obtain ⟨g59, hwit59⟩ : ∃ w9, w9 = u := ⟨u, rfl⟩
      subst hwit59
      obtain ⟨hP1, hD1⟩ := hB9
      rw [ht] at hP1
      have hP := hP1
      have hD := hD1.weaken (fun _ q _ h => hFc q.1 h)
      generalize H1 = H at hP hS ⊢
      have hP : va_P (dC, dI) vwCl (WR a k h0 (fT vi 6 (nI (R + 1))) vj (fT (fT (fT vF 0 g1) 5 (upd (vF 5) (nI R).toNatClampNeg (nI (C + R)))) 0 g59) vG) H := hP
      have hD : va_D A (WR a k h0 (fT vi 6 (nI (R + 1))) vj (fT (fT (fT vF 0 g1) 5 (upd (vF 5) (nI R).toNatClampNeg (nI (C + R)))) 0 g59) vG) := hD
      have e9 : fT (fT vF 0 g59) 5 (upd (vF 5) (nI R).toNatClampNeg (nI (C + R))) = fT (fT (fT vF 0 g1) 5 (upd (vF 5) (nI R).toNatClampNeg (nI (C + R)))) 0 g59 := ((fT_sw _ _ _ (Nat.ne_of_beq_eq_false rfl)).trans (congrArg (fun g9 => fT g9 5 (upd (vF 5) (nI R).toNatClampNeg (nI (C + R)))) (fT_sm _ _ _ _))).symm
      rw [← e9] at hP hD
      clear e9
      have hP : va_P (dC, dI) vwCl (WR a k h0 (fT vi 6 (nI (R + 1))) vj (fT (fT vF 0 g59) 5 (upd (vF 5) (nI R).toNatClampNeg (nI (C + R)))) vG) H := hP
      have hD : va_D A (WR a k h0 (fT vi 6 (nI (R + 1))) vj (fT (fT vF 0 g59) 5 (upd (vF 5) (nI R).toNatClampNeg (nI (C + R)))) vG) := hD
      have f59_0 := hw9
      try dsimp only at f59_0
      refine lv_lload hx hb dX12_wayRow_62 (lv_at hl 5 rfl) ?_
      refine lv_lload hx hb dX12_wayRow_64 (lv_at hl 0 rfl) ?_
      refine lv_aload_n hx hb dX12_wayRow_66 rfl (lv_at hl 1 rfl) ?_
      refine lv_iload hx hb dX12_wayRow_67 (lv_at hl 6 rfl) ?_
      have hFc := allFree hD hS hA
      refine va_calli (va_runV (As := [.int (nI k5)]) (rest := [.long (((vF 60) (((9 * wn) + 1) + k5))).toInt64, .long sd]) ⟨hx, hb, hml, hown, hts⟩ (r_X12_least l dC dI a k h0 (fT vi 6 (nI (R + 1))) vj (fT (fT vF 0 g59) 5 (upd (vF 5) (nI R).toNatClampNeg (nI (C + R)))) vG k5 gq (by omega) (by first | assumption | decide | omega | rfl) H.size) (cwV 1 hts gwsRX12_wayRow_3 rfl rfl rfl (by decide +kernel) ⟨by decide +kernel, by decide +kernel⟩) ⟨fun a U g mk q => by obtain ⟨q0, q1, qP, qK, qD⟩ := q; exact ⟨q0, q1, qP, va_K.moved (u := U) (U := U.calling g mk a) (Vm.Alike.refl U.vm) qK, qD⟩, va_recv hK hP (ci := 12) (q0 := 0) rfl rfl, fun U hU9 hW => ⟨rfl, by rw [hU9], by rw [hU9]; exact hP, va_K.moved hW.alike hK, hD.weaken (fun _ _ _ _ => trivial)⟩⟩ rfl rfl hl.1 rfl (lv_room (Nat.le_of_ble_eq_true rfl)) dX12_wayRow_69 ⟨by decide +kernel, by decide +kernel⟩) hS (fun q _ h => hFc q h) hFc (fun r69 u t9_ H1 locs ht hvm hw9 hB9 hz1 hk1 hS => ?_)
      obtain ⟨hP1, hD1⟩ := hB9
      rw [ht] at hP1
      have hP := hP1
      have hD := hD1.weaken (fun _ q _ h => hFc q.1 h)
      generalize H1 = H at hP hS ⊢
      have hP : va_P (dC, dI) vwCl (WR a k h0 (fT vi 6 (nI (R + 1))) vj (fT (fT vF 0 g59) 5 (upd (vF 5) (nI R).toNatClampNeg (nI (C + R)))) vG) H := hP
      have hD : va_D A (WR a k h0 (fT vi 6 (nI (R + 1))) vj (fT (fT vF 0 g59) 5 (upd (vF 5) (nI R).toNatClampNeg (nI (C + R)))) vG) := hD
      have f69_0 := hw9
      try dsimp only at f69_0
      refine lv_i2l hx hb dX12_wayRow_72 rfl ?_
      refine lv_lmul hx hb dX12_wayRow_73 ?_
      have eb := mulI (x := (vF 60 (9 * wn + 1 + k5))) (y := r69)
      have bb9 := f69_0
      have by9 : ((vF 60 (9 * wn + 1 + k5)).toInt * (r69).toInt).natAbs ≤ 99 * 999 := mul_box (by omega) (by omega)
      refine lv_lsub hx hb dX12_wayRow_74 ?_
      obtain ⟨s9, hs9⟩ : ∃ s9, s9 = ((sd - ((((vF 60) (((9 * wn) + 1) + k5))).toInt64 * (r69).toInt64)) : Int64) := ⟨_, rfl⟩
      have es9 : s9.toInt = sd.toInt - (vF 60 (9 * wn + 1 + k5)).toInt * (r69).toInt := by rw [hs9, sub64 (by omega) (by omega), eb]
      refine lv_topl (fun y9 hy9 => ?_)
      obtain rfl : s9 = y9 := (hy9.trans (hs9.symm)).symm
      refine lv_lstore hx hb dX12_wayRow_75 hl (by decide) rfl (fun ls (hl : lv_has ls _ ([(4, .long s9), (7, .long (((vF 60) (((9 * wn) + 1) + k5))).toInt64), (0, .ref h0), (1, .int (nI wn)), (2, .int hw), (3, .int (nI R)), (6, .int (nI k5))])) => ?_)
      refine lv_iinc (v := (nI (k5 + 1))) hx hb dX12_wayRow_77 hl (k := 6) rfl (nI_add k5 1) (by decide) rfl (fun ls (hl : lv_has ls _ ([(6, .int (nI (k5 + 1))), (4, .long s9), (7, .long (((vF 60) (((9 * wn) + 1) + k5))).toInt64), (0, .ref h0), (1, .int (nI wn)), (2, .int hw), (3, .int (nI R))])) => ?_)
      refine lv_goto (tgt := 20) hx hb dX12_wayRow_80 (by decide) ?_
      have hl : lv_has _ _ ([(0, .ref h0), (1, .int (nI wn)), (2, .int hw), (3, .int (nI R)), (4, .long s9), (6, .int (nI (k5 + 1)))]) := lv_sub hl [3, 4, 5, 6, 1, 0] rfl
      exact ih20 (k5 + 1) s9 g59 (fT m1 (30 + R * (C + 1) + k5) (hI * (vF 60 (9 * wn + 1 + k5)).toInt)) _ _ _ (f59_0) (by omega) (by omega) (fun j hj => by by_cases e9 : j = k5; (rw [e9, fT_eq]; omega); (rw [fT_ne _ _ (by omega)]; exact hrow j (by omega))) (fun j h1 h2 => by rw [fT_ne _ _ (by omega)]; exact hrest j (by omega) h2) (fun q hq => by (rw [fT_ne _ _ (by omega)]); exact ho q hq) (by omega) hP hD hS hl
theorem dX12_waysOf_0 : decode cX12_waysOf 0 = .ok (.aload_n 0, 1) := dk_42 (by decide +kernel)
theorem dX12_waysOf_1 : decode cX12_waysOf 1 = .ok (.getfield 206, 3) := dk_180 (by decide +kernel)
theorem dX12_waysOf_4 : decode cX12_waysOf 4 = .ok (.iload_n 1, 1) := dk_27 (by decide +kernel)
theorem dX12_waysOf_5 : decode cX12_waysOf 5 = .ok (.iaload, 1) := dk_46 (by decide +kernel)
theorem dX12_waysOf_6 : decode cX12_waysOf 6 = .ok (.iconst 1, 1) := dk_4 (by decide +kernel)
theorem dX12_waysOf_7 : decode cX12_waysOf 7 = .ok (.if_icmp .eq 9, 3) := dk_159 (by decide +kernel)
theorem dX12_waysOf_10 : decode cX12_waysOf 10 = .ok (.aload_n 0, 1) := dk_42 (by decide +kernel)
theorem dX12_waysOf_11 : decode cX12_waysOf 11 = .ok (.iload_n 1, 1) := dk_27 (by decide +kernel)
theorem dX12_waysOf_12 : decode cX12_waysOf 12 = .ok (.iconst 1, 1) := dk_4 (by decide +kernel)
theorem dX12_waysOf_13 : decode cX12_waysOf 13 = .ok (.invokevirtual 832, 3) := dk_182 (by decide +kernel)
theorem dX12_waysOf_16 : decode cX12_waysOf 16 = .ok (.aload_n 0, 1) := dk_42 (by decide +kernel)
theorem dX12_waysOf_17 : decode cX12_waysOf 17 = .ok (.getfield 206, 3) := dk_180 (by decide +kernel)
theorem dX12_waysOf_20 : decode cX12_waysOf 20 = .ok (.iload_n 1, 1) := dk_27 (by decide +kernel)
theorem dX12_waysOf_21 : decode cX12_waysOf 21 = .ok (.iaload, 1) := dk_46 (by decide +kernel)
theorem dX12_waysOf_22 : decode cX12_waysOf 22 = .ok (.ifCond .eq 9, 3) := dk_153 (by decide +kernel)
theorem dX12_waysOf_25 : decode cX12_waysOf 25 = .ok (.aload_n 0, 1) := dk_42 (by decide +kernel)
theorem dX12_waysOf_26 : decode cX12_waysOf 26 = .ok (.iload_n 1, 1) := dk_27 (by decide +kernel)
theorem dX12_waysOf_27 : decode cX12_waysOf 27 = .ok (.iconst (-1), 1) := dk_2 (by decide +kernel)
theorem dX12_waysOf_28 : decode cX12_waysOf 28 = .ok (.invokevirtual 832, 3) := dk_182 (by decide +kernel)
theorem dX12_waysOf_31 : decode cX12_waysOf 31 = .ok (.return_, 1) := dk_177 (by decide +kernel)
def wsRX12_waysOf : List Cond := .code yX12_waysOf cX12_waysOf 2 none :: ([.fieldLink RX12 206 "OptimaWorksModel" "waySign" "[I"] ++ wsX120 ++ (wsV RX12 832 RX12 yX12_wayRow wsRX12_wayRow))
theorem iwsRX12_waysOf_in12 : ∀ w ∈ wsX120, w ∈ wsRX12_waysOf := fun _ h => List.mem_cons_of_mem _ (List.mem_append_left _ (List.mem_append_right _ h))
theorem gwsRX12_waysOf_0 : GoodIn wsRX12_waysOf (wsV RX12 832 RX12 yX12_wayRow wsRX12_wayRow) := goodIn_sub (fun _ h => List.mem_cons_of_mem _ (List.mem_append_right _ h)) (gdV (by decide +kernel) gdwsRX12_wayRow)
theorem gdwsRX12_waysOf : wsRX12_waysOf.all goodWord = true := gdC rfl (gdA (gdA (by decide +kernel : ([.fieldLink RX12 206 "OptimaWorksModel" "waySign" "[I"] : List Cond).all goodWord = true) gdwsX120) (gdV (by decide +kernel) gdwsRX12_wayRow))
set_option maxHeartbeats 4000000 in
set_option maxRecDepth 100000 in
/-- waysOf(w) -/
theorem r_X12_waysOf (l : Launch) (dC : Nat → ClassId) (dI : Nat → Nat → Nat) (a : Nat → Nat) (k : Nat → ClassId) (h0 : Nat) (vi : Nat → Int32) (vj : Nat → Int64) (vF : Nat → Nat → Int32) (vG : Nat → Nat → Int64) (wn : Nat) (C : Nat) (R : Nat) (gq : Nat) (mg : Nat → Int) (hBg : Bg (vF 0) mg) (hC : vi 5 = nI C) (hR : vi 6 = nI R) (hG : vi 7 = 0) (hv9 : vi 90 = nI (C - 1)) (hC9 : 0 < C ∧ C ≤ 9) (hR38 : R ≤ 38) (hBl : BldL C R mg (vF 5)) (hM : MdlB vF gq) (hwn : wn < 39) (sz : Nat) : Met l yX12_waysOf wsRX12_waysOf ({ frames := 4, cells := 0, slots := 0, locals := 98 }) (va_Pc [.ref h0, .int (nI wn)] (fun U => U.heap.size = sz ∧ va_P (dC, dI) vwCl (WR a k h0 vi vj vF vG) U.heap ∧ va_K (dC, dI) vwCl (tX12 k) U ∧ va_D (fun _ => True) (WR a k h0 vi vj vF vG))) (va_Qv (fun (u : (Nat → Int32) × (Nat → Int32) × (Nat → Int) × (Nat)) => (Bg (u.1) (u.2.2.1)) ∧ (BldL C (R + (u.2.2.2)) (u.2.2.1) (u.2.1)) ∧ ((u.2.2.2) ≤ 2) ∧ (∀ q, (q < 30 ∨ 1000 ≤ q) → (u.2.2.1) q = mg q)) (fun (u : (Nat → Int32) × (Nat → Int32) × (Nat → Int) × (Nat)) t => va_P (dC, dI) vwCl (WR a k h0 (fT vi 6 (nI (R + (u.2.2.2)))) vj (fT (fT vF 0 (u.1)) 5 (u.2.1)) vG) t.heap ∧ va_D (va_A (WR a k h0 vi vj vF vG) sz) (WR a k h0 (fT vi 6 (nI (R + (u.2.2.2)))) vj (fT (fT vF 0 (u.1)) 5 (u.2.1)) vG)) (va_A (WR a k h0 vi vj vF vG) sz)) 0 0 (va_A (WR a k h0 vi vj vF vG) sz) := by
  refine Met.ofW (cc := cX12_waysOf) (maxL := 2) (ret := none) (by decide) rfl ?_
  intro p e s m args below meth c s₁ B hml hv
  obtain ⟨rfl, hsz, hP, hK, hD0⟩ := hv
  have hx := B.exec
  have hb := B.bytes
  have hr := B.returns
  have hts := atoms_spec (ws := wsRX12_waysOf) B.pre
  have hown : s.vm.findClass RX12 = some m.cls := findClass_of_methodNamed B.named
  have hlocks := B.notSynchronized
  subst hsz
  have hD := hD0.self (sz := s.heap.size)
  generalize hAe : va_A (WR a k h0 vi vj vF vG) s.heap.size = A at hD ⊢
  have hA : ∀ q : Nat, s.heap.size ≤ q → A q := fun q h => by rw [← hAe]; exact Or.inr h
  have hS : va_S A s.heap s.heap [] := va_S.rf
  have hl := lv_entry ([.ref h0, .int (nI wn)]) (n := 2) (Nat.le_of_ble_eq_true rfl)
  rw [lg_entry_eq]
  generalize (lg_sl ([.ref h0, .int (nI wn)]) ++ List.replicate (2 - (lg_sl ([.ref h0, .int (nI wn)])).length) Slot.unset).toArray = ls at hl ⊢
  have hl : lv_has ls 2 [(0, .ref h0), (1, .int (nI wn))] := hl
  refine lv_aload_n hx hb dX12_waysOf_0 rfl (lv_at hl 0 rfl) ?_
  refine va_get (D := (dC, dI)) (ci := 12) (v := .ref (a 61)) (C := RX12) (T := TX12) (N := 163) (fs := fM (vS a vi vj)) hx hb hts iwsRX12_waysOf_in12 hown hK hP 0 rfl rfl 101 (by decide) (hts (.fieldLink RX12 206 "OptimaWorksModel" "waySign" "[I") (by decide +kernel)) (fun _ h9 => h9) rfl dX12_waysOf_1 ?_
  refine lv_iload_n hx hb dX12_waysOf_4 rfl (lv_at hl 1 rfl) ?_
  refine va_iald (cA := k 61) (n := 39) (f := (vF 61)) hx hb hK hP 62 61 (WR_get 61 (by decide)) (TR_get 61 (by decide)) (vp_in_nI (show wn < 39 by omega) (by omega)) dX12_waysOf_5 ?_
  refine lv_topi (fun y1 hy1 => ?_)
  obtain rfl : ((vF 61) wn) = y1 := (hy1.trans (by rw [nI_clamp (by omega)])).symm
  refine lv_iconst (v := 1) hx hb dX12_waysOf_6 (by decide) ?_
  refine lv_icmp_eq (tgt := 16) hx hb dX12_waysOf_7 (by decide) (fun c_7 => ?_) (fun c_7 => ?_)
  · have t_7 : (((vF 61) wn)).toInt = 1 := toI_eq c_7 rfl (by decide)
    refine lv_aload_n hx hb dX12_waysOf_16 rfl (lv_at hl 0 rfl) ?_
    refine va_get (D := (dC, dI)) (ci := 12) (v := .ref (a 61)) (C := RX12) (T := TX12) (N := 163) (fs := fM (vS a vi vj)) hx hb hts iwsRX12_waysOf_in12 hown hK hP 0 rfl rfl 101 (by decide) (hts (.fieldLink RX12 206 "OptimaWorksModel" "waySign" "[I") (by decide +kernel)) (fun _ h9 => h9) rfl dX12_waysOf_17 ?_
    refine lv_iload_n hx hb dX12_waysOf_20 rfl (lv_at hl 1 rfl) ?_
    refine va_iald (cA := k 61) (n := 39) (f := (vF 61)) hx hb hK hP 62 61 (WR_get 61 (by decide)) (TR_get 61 (by decide)) (vp_in_nI (show wn < 39 by omega) (by omega)) dX12_waysOf_21 ?_
    refine lv_topi (fun y2 hy2 => ?_)
    obtain rfl : ((vF 61) wn) = y2 := (hy2.trans (by rw [nI_clamp (by omega)])).symm
    refine lv_if_eq (tgt := 31) hx hb dX12_waysOf_22 (by decide) (fun c_22 => ?_) (fun c_22 => ?_)
    · have t_22 : (((vF 61) wn)).toInt = 0 := toI_eq c_22 rfl (by decide)
      refine W.widen (k := 0) (n := 0) (by decide +kernel) (by decide +kernel) ?_
      have e9 : fT vi 6 (nI (R + 0)) = vi := by funext q9; by_cases h9_6 : q9 = 6; (subst h9_6; exact (fT_eq _ _ _).trans (Eq.trans (by first | rfl | assumption | (symm; assumption) | (subst_vars; rfl)) (Eq.refl _).symm)); exact (fT_ne _ _ h9_6).trans (Eq.refl _).symm
      have hP : va_P (dC, dI) vwCl (WR a k h0 (fT vi 6 (nI (R + 0))) vj vF vG) s.heap := by rw [e9]; exact hP
      have hD : va_D A (WR a k h0 (fT vi 6 (nI (R + 0))) vj vF vG) := by rw [e9]; exact hD
      clear e9
      have e9 : fT (fT vF 0 (vF 0)) 5 (vF 5) = vF := (fT_id _ _ (fT_ne _ _ (Nat.ne_of_beq_eq_false rfl))).trans (fT_id _ _ (rfl))
      have hP : va_P (dC, dI) vwCl (WR a k h0 (fT vi 6 (nI (R + 0))) vj (fT (fT vF 0 (vF 0)) 5 (vF 5)) vG) s.heap := by rw [e9]; exact hP
      have hD : va_D A (WR a k h0 (fT vi 6 (nI (R + 0))) vj (fT (fT vF 0 (vF 0)) 5 (vF 5)) vG) := by rw [e9]; exact hD
      clear e9
      exact W.vret hx hb hr (fun t9_ ht hW => ⟨⟨((vF 0), (vF 5), mg, 0), rfl, by (try dsimp only); exact ⟨hBg, hBl, by omega, fun q hq => by skip <;> rfl⟩, by rw [ht]; exact hP, hD⟩, hS.F ht⟩) hS.2.2 dX12_waysOf_31
    · have t_22 : ¬ (((vF 61) wn)).toInt = 0 := toI_neq c_22 rfl (by decide)
      refine lv_aload_n hx hb dX12_waysOf_25 rfl (lv_at hl 0 rfl) ?_
      refine lv_iload_n hx hb dX12_waysOf_26 rfl (lv_at hl 1 rfl) ?_
      refine lv_iconst (v := (-1)) hx hb dX12_waysOf_27 (by decide) ?_
      have hFc := allFree hD hS hA
      refine va_callv (va_runV (As := [.int (nI wn), .int (-1)]) (rest := []) ⟨hx, hb, hml, hown, hts⟩ (r_X12_wayRow l dC dI a k h0 vi vj vF vG wn (-1) (-1) C R gq mg hBg (by first | assumption | decide | omega | rfl) (hR) (by first | assumption | decide | omega | rfl) (by first | assumption | decide | omega | rfl) (by first | assumption | decide | omega | rfl) (by first | assumption | decide | omega | rfl) (hBl) (hM) (by first | assumption | decide | omega | rfl) (by decide) (Or.inr rfl) s.heap.size) (cwV 2 hts gwsRX12_waysOf_0 rfl rfl rfl (by decide +kernel) ⟨by decide +kernel, by decide +kernel⟩) ⟨fun a U g mk q => by obtain ⟨q0, q1, qP, qK, qD⟩ := q; exact ⟨q0, q1, qP, va_K.moved (u := U) (U := U.calling g mk a) (Vm.Alike.refl U.vm) qK, qD⟩, va_recv hK hP (ci := 12) (q0 := 0) rfl rfl, fun U hU9 hW => ⟨rfl, by rw [hU9], by rw [hU9]; exact hP, va_K.moved hW.alike hK, hD.weaken (fun _ _ _ _ => trivial)⟩⟩ rfl rfl hl.1 rfl (lv_room (Nat.le_of_ble_eq_true rfl)) dX12_waysOf_28 ⟨by decide +kernel, by decide +kernel⟩) hS (fun q _ h => hFc q h) hFc (fun u t9_ H1 locs ht hvm hw9 hB9 hz1 hk1 hS => ?_)
      obtain ⟨g28, m228⟩ := u
      try dsimp only at hw9 hB9
      obtain ⟨hP1, hD1⟩ := hB9
      rw [ht] at hP1
      have hP := hP1
      have hD := hD1.weaken (fun _ q _ h => hFc q.1 h)
      generalize H1 = H at hP hS ⊢
      have hP : va_P (dC, dI) vwCl (WR a k h0 (fT vi 6 (nI (R + 1))) vj (fT (fT vF 0 g28) 5 (upd (vF 5) (nI R).toNatClampNeg (nI (C + R)))) vG) H := hP
      have hD : va_D A (WR a k h0 (fT vi 6 (nI (R + 1))) vj (fT (fT vF 0 g28) 5 (upd (vF 5) (nI R).toNatClampNeg (nI (C + R)))) vG) := hD
      obtain ⟨f28_0, f28_1, f28_2⟩ := hw9
      have f28_1 : BldL C (R + 1) m228 (upd (vF 5) (nI R).toNatClampNeg (nI (C + R))) := f28_1
      refine W.widen (k := 0) (n := 0) (by decide +kernel) (by decide +kernel) ?_
      exact W.vret hx hb hr (fun t9_ ht hW => ⟨⟨(g28, (upd (vF 5) (nI R).toNatClampNeg (nI (C + R))), m228, 1), rfl, by (try dsimp only); exact ⟨f28_0, f28_1, by omega, fun q hq => by (rw [f28_2 _ (by omega)]) <;> rfl⟩, by rw [ht]; exact hP, hD⟩, hS.F ht⟩) hS.2.2 dX12_waysOf_31
  · have t_7 : ¬ (((vF 61) wn)).toInt = 1 := toI_neq c_7 rfl (by decide)
    refine lv_aload_n hx hb dX12_waysOf_10 rfl (lv_at hl 0 rfl) ?_
    refine lv_iload_n hx hb dX12_waysOf_11 rfl (lv_at hl 1 rfl) ?_
    refine lv_iconst (v := 1) hx hb dX12_waysOf_12 (by decide) ?_
    have hFc := allFree hD hS hA
    refine va_callv (va_runV (As := [.int (nI wn), .int 1]) (rest := []) ⟨hx, hb, hml, hown, hts⟩ (r_X12_wayRow l dC dI a k h0 vi vj vF vG wn 1 1 C R gq mg hBg (by first | assumption | decide | omega | rfl) (by first | assumption | decide | omega | rfl) (by first | assumption | decide | omega | rfl) (by first | assumption | decide | omega | rfl) (by first | assumption | decide | omega | rfl) (by first | assumption | decide | omega | rfl) (by first | assumption | decide | omega | rfl) (by first | assumption | decide | omega | rfl) (by first | assumption | decide | omega | rfl) (by decide) (Or.inl rfl) s.heap.size) (cwV 2 hts gwsRX12_waysOf_0 rfl rfl rfl (by decide +kernel) ⟨by decide +kernel, by decide +kernel⟩) ⟨fun a U g mk q => by obtain ⟨q0, q1, qP, qK, qD⟩ := q; exact ⟨q0, q1, qP, va_K.moved (u := U) (U := U.calling g mk a) (Vm.Alike.refl U.vm) qK, qD⟩, va_recv hK hP (ci := 12) (q0 := 0) rfl rfl, fun U hU9 hW => ⟨rfl, by rw [hU9], by rw [hU9]; exact hP, va_K.moved hW.alike hK, hD.weaken (fun _ _ _ _ => trivial)⟩⟩ rfl rfl hl.1 rfl (lv_room (Nat.le_of_ble_eq_true rfl)) dX12_waysOf_13 ⟨by decide +kernel, by decide +kernel⟩) hS (fun q _ h => hFc q h) hFc (fun u t9_ H1 locs ht hvm hw9 hB9 hz1 hk1 hS => ?_)
    obtain ⟨g13, m213⟩ := u
    try dsimp only at hw9 hB9
    obtain ⟨hP1, hD1⟩ := hB9
    rw [ht] at hP1
    have hP := hP1
    have hD := hD1.weaken (fun _ q _ h => hFc q.1 h)
    generalize H1 = H at hP hS ⊢
    have hP : va_P (dC, dI) vwCl (WR a k h0 (fT vi 6 (nI (R + 1))) vj (fT (fT vF 0 g13) 5 (upd (vF 5) (nI R).toNatClampNeg (nI (C + R)))) vG) H := hP
    have hD : va_D A (WR a k h0 (fT vi 6 (nI (R + 1))) vj (fT (fT vF 0 g13) 5 (upd (vF 5) (nI R).toNatClampNeg (nI (C + R)))) vG) := hD
    obtain ⟨f13_0, f13_1, f13_2⟩ := hw9
    have f13_1 : BldL C (R + 1) m213 (upd (vF 5) (nI R).toNatClampNeg (nI (C + R))) := f13_1
    refine lv_aload_n hx hb dX12_waysOf_16 rfl (lv_at hl 0 rfl) ?_
    refine va_get (D := (dC, dI)) (ci := 12) (v := .ref (a 61)) (C := RX12) (T := TX12) (N := 163) (fs := fM (vS a (fT vi 6 (nI (R + 1))) vj)) hx hb hts iwsRX12_waysOf_in12 hown hK hP 0 rfl rfl 101 (by decide) (hts (.fieldLink RX12 206 "OptimaWorksModel" "waySign" "[I") (by decide +kernel)) (fun _ h9 => h9) rfl dX12_waysOf_17 ?_
    refine lv_iload_n hx hb dX12_waysOf_20 rfl (lv_at hl 1 rfl) ?_
    refine va_iald (cA := k 61) (n := 39) (f := (vF 61)) hx hb hK hP 62 61 (WR_get 61 (by decide)) (TR_get 61 (by decide)) (vp_in_nI (show wn < 39 by omega) (by omega)) dX12_waysOf_21 ?_
    refine lv_topi (fun y3 hy3 => ?_)
    obtain rfl : ((vF 61) wn) = y3 := (hy3.trans (by rw [nI_clamp (by omega)])).symm
    refine lv_if_eq (tgt := 31) hx hb dX12_waysOf_22 (by decide) (fun c_22 => ?_) (fun c_22 => ?_)
    · have t_22 : (((vF 61) wn)).toInt = 0 := toI_eq c_22 rfl (by decide)
      refine W.widen (k := 0) (n := 0) (by decide +kernel) (by decide +kernel) ?_
      exact W.vret hx hb hr (fun t9_ ht hW => ⟨⟨(g13, (upd (vF 5) (nI R).toNatClampNeg (nI (C + R))), m213, 1), rfl, by (try dsimp only); exact ⟨f13_0, f13_1, by omega, fun q hq => by (rw [f13_2 _ (by omega)]) <;> rfl⟩, by rw [ht]; exact hP, hD⟩, hS.F ht⟩) hS.2.2 dX12_waysOf_31
    · have t_22 : ¬ (((vF 61) wn)).toInt = 0 := toI_neq c_22 rfl (by decide)
      refine lv_aload_n hx hb dX12_waysOf_25 rfl (lv_at hl 0 rfl) ?_
      refine lv_iload_n hx hb dX12_waysOf_26 rfl (lv_at hl 1 rfl) ?_
      refine lv_iconst (v := (-1)) hx hb dX12_waysOf_27 (by decide) ?_
      have hFc := allFree hD hS hA
      refine va_callv (va_runV (As := [.int (nI wn), .int (-1)]) (rest := []) ⟨hx, hb, hml, hown, hts⟩ (r_X12_wayRow l dC dI a k h0 (fT vi 6 (nI (R + 1))) vj (fT (fT vF 0 g13) 5 (upd (vF 5) (nI R).toNatClampNeg (nI (C + R)))) vG wn (-1) (-1) C (R + 1) gq m213 f13_0 (by first | assumption | decide | omega | rfl) (rfl) (by first | assumption | decide | omega | rfl) (by first | assumption | decide | omega | rfl) (by first | assumption | decide | omega | rfl) (by first | assumption | decide | omega | rfl) (f13_1) (hM) (by first | assumption | decide | omega | rfl) (by decide) (Or.inr rfl) H.size) (cwV 2 hts gwsRX12_waysOf_0 rfl rfl rfl (by decide +kernel) ⟨by decide +kernel, by decide +kernel⟩) ⟨fun a U g mk q => by obtain ⟨q0, q1, qP, qK, qD⟩ := q; exact ⟨q0, q1, qP, va_K.moved (u := U) (U := U.calling g mk a) (Vm.Alike.refl U.vm) qK, qD⟩, va_recv hK hP (ci := 12) (q0 := 0) rfl rfl, fun U hU9 hW => ⟨rfl, by rw [hU9], by rw [hU9]; exact hP, va_K.moved hW.alike hK, hD.weaken (fun _ _ _ _ => trivial)⟩⟩ rfl rfl hl.1 rfl (lv_room (Nat.le_of_ble_eq_true rfl)) dX12_waysOf_28 ⟨by decide +kernel, by decide +kernel⟩) hS (fun q _ h => hFc q h) hFc (fun u t9_ H1 locs ht hvm hw9 hB9 hz1 hk1 hS => ?_)
      obtain ⟨g28_1, m228_1⟩ := u
      try dsimp only at hw9 hB9
      obtain ⟨hP1, hD1⟩ := hB9
      rw [ht] at hP1
      have hP := hP1
      have hD := hD1.weaken (fun _ q _ h => hFc q.1 h)
      generalize H1 = H at hP hS ⊢
      have hP : va_P (dC, dI) vwCl (WR a k h0 (fT (fT vi 6 (nI (R + 1))) 6 (nI ((R + 1) + 1))) vj (fT (fT (fT (fT vF 0 g13) 5 (upd (vF 5) (nI R).toNatClampNeg (nI (C + R)))) 0 g28_1) 5 (upd (upd (vF 5) (nI R).toNatClampNeg (nI (C + R))) (nI (R + 1)).toNatClampNeg (nI (C + (R + 1))))) vG) H := hP
      have hD : va_D A (WR a k h0 (fT (fT vi 6 (nI (R + 1))) 6 (nI ((R + 1) + 1))) vj (fT (fT (fT (fT vF 0 g13) 5 (upd (vF 5) (nI R).toNatClampNeg (nI (C + R)))) 0 g28_1) 5 (upd (upd (vF 5) (nI R).toNatClampNeg (nI (C + R))) (nI (R + 1)).toNatClampNeg (nI (C + (R + 1))))) vG) := hD
      have e9 : fT vi 6 (nI ((R + 1) + 1)) = fT (fT vi 6 (nI (R + 1))) 6 (nI ((R + 1) + 1)) := (fT_sm _ _ _ _).symm
      rw [← e9] at hP hD
      clear e9
      have e9 : fT (fT vF 0 g28_1) 5 (upd (upd (vF 5) (nI R).toNatClampNeg (nI (C + R))) (nI (R + 1)).toNatClampNeg (nI (C + (R + 1)))) = fT (fT (fT (fT vF 0 g13) 5 (upd (vF 5) (nI R).toNatClampNeg (nI (C + R)))) 0 g28_1) 5 (upd (upd (vF 5) (nI R).toNatClampNeg (nI (C + R))) (nI (R + 1)).toNatClampNeg (nI (C + (R + 1)))) := ((congrArg (fun g9 => fT g9 5 (upd (upd (vF 5) (nI R).toNatClampNeg (nI (C + R))) (nI (R + 1)).toNatClampNeg (nI (C + (R + 1))))) ((fT_sw _ _ _ (Nat.ne_of_beq_eq_false rfl)).trans (congrArg (fun g9 => fT g9 5 (upd (vF 5) (nI R).toNatClampNeg (nI (C + R)))) (fT_sm _ _ _ _)))).trans (fT_sm _ _ _ _)).symm
      rw [← e9] at hP hD
      clear e9
      have hP : va_P (dC, dI) vwCl (WR a k h0 (fT vi 6 (nI ((R + 1) + 1))) vj (fT (fT vF 0 g28_1) 5 (upd (upd (vF 5) (nI R).toNatClampNeg (nI (C + R))) (nI (R + 1)).toNatClampNeg (nI (C + (R + 1))))) vG) H := hP
      have hD : va_D A (WR a k h0 (fT vi 6 (nI ((R + 1) + 1))) vj (fT (fT vF 0 g28_1) 5 (upd (upd (vF 5) (nI R).toNatClampNeg (nI (C + R))) (nI (R + 1)).toNatClampNeg (nI (C + (R + 1))))) vG) := hD
      obtain ⟨f28_1_0, f28_1_1, f28_1_2⟩ := hw9
      have f28_1_1 : BldL C ((R + 1) + 1) m228_1 (upd (upd (vF 5) (nI R).toNatClampNeg (nI (C + R))) (nI (R + 1)).toNatClampNeg (nI (C + (R + 1)))) := f28_1_1
      refine W.widen (k := 0) (n := 0) (by decide +kernel) (by decide +kernel) ?_
      have e9 : fT vi 6 (nI (R + 2)) = fT vi 6 (nI ((R + 1) + 1)) := by funext q9; by_cases h9_6 : q9 = 6; (subst h9_6; exact (fT_eq _ _ _).trans (Eq.trans (by first | rfl | assumption | (symm; assumption) | (subst_vars; rfl)) (fT_eq _ _ _).symm)); exact (fT_ne _ _ h9_6).trans (fT_ne _ _ h9_6).symm
      have hP : va_P (dC, dI) vwCl (WR a k h0 (fT vi 6 (nI (R + 2))) vj (fT (fT vF 0 g28_1) 5 (upd (upd (vF 5) (nI R).toNatClampNeg (nI (C + R))) (nI (R + 1)).toNatClampNeg (nI (C + (R + 1))))) vG) H := by rw [e9]; exact hP
      have hD : va_D A (WR a k h0 (fT vi 6 (nI (R + 2))) vj (fT (fT vF 0 g28_1) 5 (upd (upd (vF 5) (nI R).toNatClampNeg (nI (C + R))) (nI (R + 1)).toNatClampNeg (nI (C + (R + 1))))) vG) := by rw [e9]; exact hD
      clear e9
      exact W.vret hx hb hr (fun t9_ ht hW => ⟨⟨(g28_1, (upd (upd (vF 5) (nI R).toNatClampNeg (nI (C + R))) (nI (R + 1)).toNatClampNeg (nI (C + (R + 1)))), m228_1, 2), rfl, by (try dsimp only); exact ⟨f28_1_0, f28_1_1, by omega, fun q hq => by (rw [f28_1_2 _ (by omega), f13_2 _ (by omega)]) <;> rfl⟩, by rw [ht]; exact hP, hD⟩, hS.F ht⟩) hS.2.2 dX12_waysOf_31

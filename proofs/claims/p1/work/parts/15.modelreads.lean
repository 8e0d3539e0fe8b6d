def wsX12_variable : List Cond := .code yX12_variable cX12_variable 3 (some .int) :: ([.fieldLink RX12 774 "OptimaWorksModel" "variables" "I", .fieldLink RX12 348 "OptimaWorksModel" "thrown" "I", .fieldLink RX12 191 "OptimaWorksModel" "low" "[I", .fieldLink RX12 194 "OptimaWorksModel" "high" "[I", .fieldLink RX12 197 "OptimaWorksModel" "whole" "[I"] ++ wsX120)
theorem dX12_variable_0 : decode cX12_variable 0 = .ok (.aload_n 0, 1) := by decide +kernel
theorem dX12_variable_1 : decode cX12_variable 1 = .ok (.iload_n 1, 1) := by decide +kernel
theorem dX12_variable_2 : decode cX12_variable 2 = .ok (.ifCond .lt 15, 3) := by decide +kernel
theorem dX12_variable_5 : decode cX12_variable 5 = .ok (.iload_n 1, 1) := by decide +kernel
theorem dX12_variable_6 : decode cX12_variable 6 = .ok (.aload_n 0, 1) := by decide +kernel
theorem dX12_variable_7 : decode cX12_variable 7 = .ok (.getfield 774, 3) := by decide +kernel
theorem dX12_variable_10 : decode cX12_variable 10 = .ok (.if_icmp .ge 7, 3) := by decide +kernel
theorem dX12_variable_13 : decode cX12_variable 13 = .ok (.iconst 0, 1) := by decide +kernel
theorem dX12_variable_14 : decode cX12_variable 14 = .ok (.goto 4, 3) := by decide +kernel
theorem dX12_variable_17 : decode cX12_variable 17 = .ok (.iconst 1, 1) := by decide +kernel
theorem dX12_variable_18 : decode cX12_variable 18 = .ok (.putfield 348, 3) := by decide +kernel
theorem dX12_variable_21 : decode cX12_variable 21 = .ok (.aload_n 0, 1) := by decide +kernel
theorem dX12_variable_22 : decode cX12_variable 22 = .ok (.getfield 348, 3) := by decide +kernel
theorem dX12_variable_25 : decode cX12_variable 25 = .ok (.ifCond .le 5, 3) := by decide +kernel
theorem dX12_variable_28 : decode cX12_variable 28 = .ok (.iconst 0, 1) := by decide +kernel
theorem dX12_variable_29 : decode cX12_variable 29 = .ok (.ireturn, 1) := by decide +kernel
theorem dX12_variable_30 : decode cX12_variable 30 = .ok (.iload_n 2, 1) := by decide +kernel
theorem dX12_variable_31 : decode cX12_variable 31 = .ok (.ifCond .ne 12, 3) := by decide +kernel
theorem dX12_variable_34 : decode cX12_variable 34 = .ok (.aload_n 0, 1) := by decide +kernel
theorem dX12_variable_35 : decode cX12_variable 35 = .ok (.getfield 191, 3) := by decide +kernel
theorem dX12_variable_38 : decode cX12_variable 38 = .ok (.iload_n 1, 1) := by decide +kernel
theorem dX12_variable_39 : decode cX12_variable 39 = .ok (.iaload, 1) := by decide +kernel
theorem dX12_variable_40 : decode cX12_variable 40 = .ok (.goto 32, 3) := by decide +kernel
theorem dX12_variable_43 : decode cX12_variable 43 = .ok (.iload_n 2, 1) := by decide +kernel
theorem dX12_variable_44 : decode cX12_variable 44 = .ok (.iconst 1, 1) := by decide +kernel
theorem dX12_variable_45 : decode cX12_variable 45 = .ok (.if_icmp .ne 12, 3) := by decide +kernel
theorem dX12_variable_48 : decode cX12_variable 48 = .ok (.aload_n 0, 1) := by decide +kernel
theorem dX12_variable_49 : decode cX12_variable 49 = .ok (.getfield 194, 3) := by decide +kernel
theorem dX12_variable_52 : decode cX12_variable 52 = .ok (.iload_n 1, 1) := by decide +kernel
theorem dX12_variable_53 : decode cX12_variable 53 = .ok (.iaload, 1) := by decide +kernel
theorem dX12_variable_54 : decode cX12_variable 54 = .ok (.goto 18, 3) := by decide +kernel
theorem dX12_variable_57 : decode cX12_variable 57 = .ok (.iload_n 2, 1) := by decide +kernel
theorem dX12_variable_58 : decode cX12_variable 58 = .ok (.iconst 2, 1) := by decide +kernel
theorem dX12_variable_59 : decode cX12_variable 59 = .ok (.if_icmp .ne 12, 3) := by decide +kernel
theorem dX12_variable_62 : decode cX12_variable 62 = .ok (.aload_n 0, 1) := by decide +kernel
theorem dX12_variable_63 : decode cX12_variable 63 = .ok (.getfield 197, 3) := by decide +kernel
theorem dX12_variable_66 : decode cX12_variable 66 = .ok (.iload_n 1, 1) := by decide +kernel
theorem dX12_variable_67 : decode cX12_variable 67 = .ok (.iaload, 1) := by decide +kernel
theorem dX12_variable_68 : decode cX12_variable 68 = .ok (.goto 4, 3) := by decide +kernel
theorem dX12_variable_71 : decode cX12_variable 71 = .ok (.iconst (-1), 1) := by decide +kernel
theorem dX12_variable_72 : decode cX12_variable 72 = .ok (.ireturn, 1) := by decide +kernel
theorem iX12_variable_in12 : ∀ w ∈ wsX120, w ∈ wsX12_variable := fun _ h => List.mem_cons_of_mem _ (List.mem_append_right _ h)
set_option maxHeartbeats 4000000 in
set_option maxRecDepth 100000 in
/-- variable(k, what) -/
theorem c_X12_variable (l : Launch) (dC : Nat → ClassId) (dI : Nat → Nat → Nat) (h0 : Nat) (v : Nat → Value) (x_variables : Int32) (h_variables : v 90 = .int x_variables) (b_low : Nat) (h_low : v 96 = .ref b_low) (k_low : ClassId) (r_low : Nat → Int32) (b_high : Nat) (h_high : v 97 = .ref b_high) (k_high : ClassId) (r_high : Nat → Int32) (b_whole : Nat) (h_whole : v 98 = .ref b_whole) (k_whole : ClassId) (r_whole : Nat → Int32) (hvs : x_variables.toInt ≤ 9) (k : Int32) (what : Int32) (sz : Nat) : Met l yX12_variable wsX12_variable ({ frames := 0, cells := 0, slots := 0, locals := 0 }) (va_Pc [.ref h0, .int k, .int what] (fun U => U.heap.size = sz ∧ va_P (dC, dI) vwCl [(h0, .inr (12, fM v)), (b_low, .inl (k_low, 9, .inl r_low)), (b_high, .inl (k_high, 9, .inl r_high)), (b_whole, .inl (k_whole, 9, .inl r_whole))] U.heap ∧ va_K (dC, dI) vwCl [(k_low, .int), (k_high, .int), (k_whole, .int)] U ∧ va_D (fun _ => True) [(h0, .inr (12, fM v)), (b_low, .inl (k_low, 9, .inl r_low)), (b_high, .inl (k_high, 9, .inl r_high)), (b_whole, .inl (k_whole, 9, .inl r_whole))])) (va_Qi (fun (r : Int32) (w : (Nat → Value)) => r = (if k < 0 then 0 else if x_variables ≤ k then 0 else (if what = 0 then r_low k.toNatClampNeg else if what = 1 then r_high k.toNatClampNeg else if what = 2 then r_whole k.toNatClampNeg else -1)) ∧ w = mUp v 0 (.int (if k < 0 then 1 else if x_variables ≤ k then 1 else 0))) (fun w t => va_P (dC, dI) vwCl [(h0, .inr (12, fM w)), (b_low, .inl (k_low, 9, .inl r_low)), (b_high, .inl (k_high, 9, .inl r_high)), (b_whole, .inl (k_whole, 9, .inl r_whole))] t.heap ∧ va_K (dC, dI) vwCl [(k_low, .int), (k_high, .int), (k_whole, .int)] t ∧ va_D (va_A [(h0, .inr (12, fM v)), (b_low, .inl (k_low, 9, .inl r_low)), (b_high, .inl (k_high, 9, .inl r_high)), (b_whole, .inl (k_whole, 9, .inl r_whole))] sz) [(h0, .inr (12, fM w)), (b_low, .inl (k_low, 9, .inl r_low)), (b_high, .inl (k_high, 9, .inl r_high)), (b_whole, .inl (k_whole, 9, .inl r_whole))]) (va_A [(h0, .inr (12, fM v)), (b_low, .inl (k_low, 9, .inl r_low)), (b_high, .inl (k_high, 9, .inl r_high)), (b_whole, .inl (k_whole, 9, .inl r_whole))] sz)) 0 0 (va_A [(h0, .inr (12, fM v)), (b_low, .inl (k_low, 9, .inl r_low)), (b_high, .inl (k_high, 9, .inl r_high)), (b_whole, .inl (k_whole, 9, .inl r_whole))] sz) := by
  refine Met.ofW (cc := cX12_variable) (maxL := 3) (ret := (some .int)) (by decide) rfl ?_
  intro p e s m args below meth c s₁ B hml hv
  obtain ⟨rfl, hsz, hP, hK, hD0⟩ := hv
  have hx := B.exec
  have hb := B.bytes
  have hr := B.returns
  have hts := atoms_spec (ws := wsX12_variable) B.pre
  have hown : s.vm.findClass RX12 = some m.cls := findClass_of_methodNamed B.named
  have hlocks := B.notSynchronized
  subst hsz
  have hD := hD0.self (sz := s.heap.size)
  generalize hAe : va_A [(h0, .inr (12, fM v)), (b_low, .inl (k_low, 9, .inl r_low)), (b_high, .inl (k_high, 9, .inl r_high)), (b_whole, .inl (k_whole, 9, .inl r_whole))] s.heap.size = A at hD ⊢
  have hA : ∀ q : Nat, s.heap.size ≤ q → A q := fun q h => by rw [← hAe]; exact Or.inr h
  have hS : va_S A s.heap s.heap [] := va_S.rf
  have hP : va_P (dC, dI) vwCl [(h0, .inr (12, fM v)), (b_low, .inl (k_low, 9, .inl r_low)), (b_high, .inl (k_high, 9, .inl r_high)), (b_whole, .inl (k_whole, 9, .inl r_whole))] s.heap := hP
  have hl := lv_entry ([.ref h0, .int k, .int what]) (n := 3) (Nat.le_of_ble_eq_true rfl)
  rw [lg_entry_eq]
  generalize (lg_sl ([.ref h0, .int k, .int what]) ++ List.replicate (3 - (lg_sl ([.ref h0, .int k, .int what])).length) Slot.unset).toArray = ls at hl ⊢
  have hl : lv_has ls 3 [(0, .ref h0), (1, .int k), (2, .int what)] := hl
  refine lv_aload_n hx hb dX12_variable_0 rfl (lv_at hl 0 rfl) ?_
  refine lv_iload_n hx hb dX12_variable_1 rfl (lv_at hl 1 rfl) ?_
  refine lv_if_lt (tgt := 17) hx hb dX12_variable_2 (by decide) (fun c_2 => ?_) (fun c_2 => ?_)
  · refine lv_iconst (v := 1) hx hb dX12_variable_17 (by decide) ?_
    refine va_put (D := (dC, dI)) (ci := 12) (v := .int 1) (ty := .int) (C := RX12) (T := TX12) (N := 163) hx hb hts iX12_variable_in12 tyX12 tyX12_ok nmX12 hown hK hP hD hS 0 rfl rfl 0 (by decide) (hts (.fieldLink RX12 348 "OptimaWorksModel" "thrown" "I") (by decide +kernel)) (fun _ h9 => h9) rfl (by decide +kernel) rfl rfl (Nat.le_of_ble_eq_true rfl) dX12_variable_18 (fun H locs hP hD hS => ?_)
    have hP : va_P (dC, dI) vwCl [(h0, .inr (12, fM (mUp v 0 (.int 1)))), (b_low, .inl (k_low, 9, .inl r_low)), (b_high, .inl (k_high, 9, .inl r_high)), (b_whole, .inl (k_whole, 9, .inl r_whole))] H := hP
    have hD : va_D A [(h0, .inr (12, fM (mUp v 0 (.int 1)))), (b_low, .inl (k_low, 9, .inl r_low)), (b_high, .inl (k_high, 9, .inl r_high)), (b_whole, .inl (k_whole, 9, .inl r_whole))] := hD
    refine lv_aload_n hx hb dX12_variable_21 rfl (lv_at hl 0 rfl) ?_
    refine va_get (D := (dC, dI)) (ci := 12) (v := .int 1) (C := RX12) (T := TX12) (N := 163) hx hb hts iX12_variable_in12 hown hK hP 0 rfl rfl 0 (by decide) (hts (.fieldLink RX12 348 "OptimaWorksModel" "thrown" "I") (by decide +kernel)) (fun _ h9 => h9) rfl dX12_variable_22 ?_
    refine lv_if_le (tgt := 30) hx hb dX12_variable_25 (by decide) (fun c9 => absurd c9 (by decide)) (fun _ => ?_)
    refine lv_iconst (v := 0) hx hb dX12_variable_28 (by decide) ?_
    refine W.widen (k := 0) (n := 0) (by decide +kernel) (by decide +kernel) ?_
    exact W.iret (v := 0) hx hb hr (fun t ht hW => ⟨⟨0, (mUp v 0 (.int 1)), rfl, ⟨by simp [c_2], by simp [c_2]⟩, by rw [ht]; exact hP, va_K.moved hW.alike hK, hD⟩, hS.F ht⟩) hS.2.2 dX12_variable_29
  · refine lv_iload_n hx hb dX12_variable_5 rfl (lv_at hl 1 rfl) ?_
    refine lv_aload_n hx hb dX12_variable_6 rfl (lv_at hl 0 rfl) ?_
    refine va_get (D := (dC, dI)) (ci := 12) (v := .int x_variables) (C := RX12) (T := TX12) (N := 163) hx hb hts iX12_variable_in12 hown hK hP 0 rfl rfl 90 (by decide) (hts (.fieldLink RX12 774 "OptimaWorksModel" "variables" "I") (by decide +kernel)) (fun _ h9 => h9) (congrArg some h_variables) dX12_variable_7 ?_
    refine lv_icmp_ge (tgt := 17) hx hb dX12_variable_10 (by decide) (fun c_10 => ?_) (fun c_10 => ?_)
    · refine lv_iconst (v := 1) hx hb dX12_variable_17 (by decide) ?_
      refine va_put (D := (dC, dI)) (ci := 12) (v := .int 1) (ty := .int) (C := RX12) (T := TX12) (N := 163) hx hb hts iX12_variable_in12 tyX12 tyX12_ok nmX12 hown hK hP hD hS 0 rfl rfl 0 (by decide) (hts (.fieldLink RX12 348 "OptimaWorksModel" "thrown" "I") (by decide +kernel)) (fun _ h9 => h9) rfl (by decide +kernel) rfl rfl (Nat.le_of_ble_eq_true rfl) dX12_variable_18 (fun H locs hP hD hS => ?_)
      have hP : va_P (dC, dI) vwCl [(h0, .inr (12, fM (mUp v 0 (.int 1)))), (b_low, .inl (k_low, 9, .inl r_low)), (b_high, .inl (k_high, 9, .inl r_high)), (b_whole, .inl (k_whole, 9, .inl r_whole))] H := hP
      have hD : va_D A [(h0, .inr (12, fM (mUp v 0 (.int 1)))), (b_low, .inl (k_low, 9, .inl r_low)), (b_high, .inl (k_high, 9, .inl r_high)), (b_whole, .inl (k_whole, 9, .inl r_whole))] := hD
      refine lv_aload_n hx hb dX12_variable_21 rfl (lv_at hl 0 rfl) ?_
      refine va_get (D := (dC, dI)) (ci := 12) (v := .int 1) (C := RX12) (T := TX12) (N := 163) hx hb hts iX12_variable_in12 hown hK hP 0 rfl rfl 0 (by decide) (hts (.fieldLink RX12 348 "OptimaWorksModel" "thrown" "I") (by decide +kernel)) (fun _ h9 => h9) rfl dX12_variable_22 ?_
      refine lv_if_le (tgt := 30) hx hb dX12_variable_25 (by decide) (fun c9 => absurd c9 (by decide)) (fun _ => ?_)
      refine lv_iconst (v := 0) hx hb dX12_variable_28 (by decide) ?_
      refine W.widen (k := 0) (n := 0) (by decide +kernel) (by decide +kernel) ?_
      exact W.iret (v := 0) hx hb hr (fun t ht hW => ⟨⟨0, (mUp v 0 (.int 1)), rfl, ⟨by simp [c_2, c_10], by simp [c_2, c_10]⟩, by rw [ht]; exact hP, va_K.moved hW.alike hK, hD⟩, hS.F ht⟩) hS.2.2 dX12_variable_29
    · refine lv_iconst (v := 0) hx hb dX12_variable_13 (by decide) ?_
      refine lv_goto (tgt := 18) hx hb dX12_variable_14 (by decide) ?_
      refine va_put (D := (dC, dI)) (ci := 12) (v := .int 0) (ty := .int) (C := RX12) (T := TX12) (N := 163) hx hb hts iX12_variable_in12 tyX12 tyX12_ok nmX12 hown hK hP hD hS 0 rfl rfl 0 (by decide) (hts (.fieldLink RX12 348 "OptimaWorksModel" "thrown" "I") (by decide +kernel)) (fun _ h9 => h9) rfl (by decide +kernel) rfl rfl (Nat.le_of_ble_eq_true rfl) dX12_variable_18 (fun H locs hP hD hS => ?_)
      have hP : va_P (dC, dI) vwCl [(h0, .inr (12, fM (mUp v 0 (.int 0)))), (b_low, .inl (k_low, 9, .inl r_low)), (b_high, .inl (k_high, 9, .inl r_high)), (b_whole, .inl (k_whole, 9, .inl r_whole))] H := hP
      have hD : va_D A [(h0, .inr (12, fM (mUp v 0 (.int 0)))), (b_low, .inl (k_low, 9, .inl r_low)), (b_high, .inl (k_high, 9, .inl r_high)), (b_whole, .inl (k_whole, 9, .inl r_whole))] := hD
      refine lv_aload_n hx hb dX12_variable_21 rfl (lv_at hl 0 rfl) ?_
      refine va_get (D := (dC, dI)) (ci := 12) (v := .int 0) (C := RX12) (T := TX12) (N := 163) hx hb hts iX12_variable_in12 hown hK hP 0 rfl rfl 0 (by decide) (hts (.fieldLink RX12 348 "OptimaWorksModel" "thrown" "I") (by decide +kernel)) (fun _ h9 => h9) rfl dX12_variable_22 ?_
      refine lv_if_le (tgt := 30) hx hb dX12_variable_25 (by decide) (fun _ => ?_) (fun c9 => absurd (by decide) c9)
      refine lv_iload_n hx hb dX12_variable_30 rfl (lv_at hl 2 rfl) ?_
      refine lv_if_ne (tgt := 43) hx hb dX12_variable_31 (by decide) (fun c_31 => ?_) (fun c_31 => ?_)
      · refine lv_iload_n hx hb dX12_variable_43 rfl (lv_at hl 2 rfl) ?_
        refine lv_iconst (v := 1) hx hb dX12_variable_44 (by decide) ?_
        refine lv_icmp_ne (tgt := 57) hx hb dX12_variable_45 (by decide) (fun c_45 => ?_) (fun c_45 => ?_)
        · refine lv_iload_n hx hb dX12_variable_57 rfl (lv_at hl 2 rfl) ?_
          refine lv_iconst (v := 2) hx hb dX12_variable_58 (by decide) ?_
          refine lv_icmp_ne (tgt := 71) hx hb dX12_variable_59 (by decide) (fun c_59 => ?_) (fun c_59 => ?_)
          · refine lv_iconst (v := (-1)) hx hb dX12_variable_71 (by decide) ?_
            refine W.widen (k := 0) (n := 0) (by decide +kernel) (by decide +kernel) ?_
            exact W.iret (v := (-1)) hx hb hr (fun t ht hW => ⟨⟨(-1), (mUp v 0 (.int 0)), rfl, ⟨by simp [c_2, c_10, c_31, c_45, c_59], by simp [c_2, c_10, c_31, c_45, c_59]⟩, by rw [ht]; exact hP, va_K.moved hW.alike hK, hD⟩, hS.F ht⟩) hS.2.2 dX12_variable_72
          · refine lv_aload_n hx hb dX12_variable_62 rfl (lv_at hl 0 rfl) ?_
            refine va_get (D := (dC, dI)) (ci := 12) (v := .ref b_whole) (C := RX12) (T := TX12) (N := 163) hx hb hts iX12_variable_in12 hown hK hP 0 rfl rfl 98 (by decide) (hts (.fieldLink RX12 197 "OptimaWorksModel" "whole" "[I") (by decide +kernel)) (fun _ h9 => h9) (congrArg some h_whole) dX12_variable_63 ?_
            refine lv_iload_n hx hb dX12_variable_66 rfl (lv_at hl 1 rfl) ?_
            refine va_iald hx hb hK hP 3 2 rfl rfl (vp_in_iff.mpr (by have t_c_2 : ¬ (k : Int32).toInt < (0 : Int32).toInt := fun h => c_2 ((Int32.lt_iff_toInt_lt).mpr h); have t_c_10 : ¬ (x_variables : Int32).toInt ≤ (k : Int32).toInt := fun h => c_10 ((Int32.le_iff_toInt_le).mpr h); have z2 : (0 : Int32).toInt = 0 := (by decide); have e_0 := hvs; omega)) dX12_variable_67 ?_
            refine lv_goto (tgt := 72) hx hb dX12_variable_68 (by decide) ?_
            refine W.widen (k := 0) (n := 0) (by decide +kernel) (by decide +kernel) ?_
            exact W.iret (v := (r_whole (k).toNatClampNeg)) hx hb hr (fun t ht hW => ⟨⟨(r_whole (k).toNatClampNeg), (mUp v 0 (.int 0)), rfl, ⟨by simp [c_2, c_10, c_31, c_45, c_59], by simp [c_2, c_10, c_31, c_45, c_59]⟩, by rw [ht]; exact hP, va_K.moved hW.alike hK, hD⟩, hS.F ht⟩) hS.2.2 dX12_variable_72
        · refine lv_aload_n hx hb dX12_variable_48 rfl (lv_at hl 0 rfl) ?_
          refine va_get (D := (dC, dI)) (ci := 12) (v := .ref b_high) (C := RX12) (T := TX12) (N := 163) hx hb hts iX12_variable_in12 hown hK hP 0 rfl rfl 97 (by decide) (hts (.fieldLink RX12 194 "OptimaWorksModel" "high" "[I") (by decide +kernel)) (fun _ h9 => h9) (congrArg some h_high) dX12_variable_49 ?_
          refine lv_iload_n hx hb dX12_variable_52 rfl (lv_at hl 1 rfl) ?_
          refine va_iald hx hb hK hP 2 1 rfl rfl (vp_in_iff.mpr (by have t_c_2 : ¬ (k : Int32).toInt < (0 : Int32).toInt := fun h => c_2 ((Int32.lt_iff_toInt_lt).mpr h); have t_c_10 : ¬ (x_variables : Int32).toInt ≤ (k : Int32).toInt := fun h => c_10 ((Int32.le_iff_toInt_le).mpr h); have z2 : (0 : Int32).toInt = 0 := (by decide); have e_0 := hvs; omega)) dX12_variable_53 ?_
          refine lv_goto (tgt := 72) hx hb dX12_variable_54 (by decide) ?_
          refine W.widen (k := 0) (n := 0) (by decide +kernel) (by decide +kernel) ?_
          exact W.iret (v := (r_high (k).toNatClampNeg)) hx hb hr (fun t ht hW => ⟨⟨(r_high (k).toNatClampNeg), (mUp v 0 (.int 0)), rfl, ⟨by simp [c_2, c_10, c_31, c_45], by simp [c_2, c_10, c_31, c_45]⟩, by rw [ht]; exact hP, va_K.moved hW.alike hK, hD⟩, hS.F ht⟩) hS.2.2 dX12_variable_72
      · refine lv_aload_n hx hb dX12_variable_34 rfl (lv_at hl 0 rfl) ?_
        refine va_get (D := (dC, dI)) (ci := 12) (v := .ref b_low) (C := RX12) (T := TX12) (N := 163) hx hb hts iX12_variable_in12 hown hK hP 0 rfl rfl 96 (by decide) (hts (.fieldLink RX12 191 "OptimaWorksModel" "low" "[I") (by decide +kernel)) (fun _ h9 => h9) (congrArg some h_low) dX12_variable_35 ?_
        refine lv_iload_n hx hb dX12_variable_38 rfl (lv_at hl 1 rfl) ?_
        refine va_iald hx hb hK hP 1 0 rfl rfl (vp_in_iff.mpr (by have t_c_2 : ¬ (k : Int32).toInt < (0 : Int32).toInt := fun h => c_2 ((Int32.lt_iff_toInt_lt).mpr h); have t_c_10 : ¬ (x_variables : Int32).toInt ≤ (k : Int32).toInt := fun h => c_10 ((Int32.le_iff_toInt_le).mpr h); have z2 : (0 : Int32).toInt = 0 := (by decide); have e_0 := hvs; omega)) dX12_variable_39 ?_
        refine lv_goto (tgt := 72) hx hb dX12_variable_40 (by decide) ?_
        refine W.widen (k := 0) (n := 0) (by decide +kernel) (by decide +kernel) ?_
        exact W.iret (v := (r_low (k).toNatClampNeg)) hx hb hr (fun t ht hW => ⟨⟨(r_low (k).toNatClampNeg), (mUp v 0 (.int 0)), rfl, ⟨by simp [c_2, c_10, c_31], by simp [c_2, c_10, c_31]⟩, by rw [ht]; exact hP, va_K.moved hW.alike hK, hD⟩, hS.F ht⟩) hS.2.2 dX12_variable_72
def wsX12_letter : List Cond := .code yX12_letter cX12_letter 2 (some .int) :: ([.fieldLink RX12 348 "OptimaWorksModel" "thrown" "I", .fieldLink RX12 933 "OptimaWorksModel" "printed" "I", .fieldLink RX12 248 "OptimaWorksModel" "out" "[B"] ++ wsX120)
theorem dX12_letter_0 : decode cX12_letter 0 = .ok (.aload_n 0, 1) := by decide +kernel
theorem dX12_letter_1 : decode cX12_letter 1 = .ok (.iconst 0, 1) := by decide +kernel
theorem dX12_letter_2 : decode cX12_letter 2 = .ok (.putfield 348, 3) := by decide +kernel
theorem dX12_letter_5 : decode cX12_letter 5 = .ok (.iload_n 1, 1) := by decide +kernel
theorem dX12_letter_6 : decode cX12_letter 6 = .ok (.ifCond .lt 11, 3) := by decide +kernel
theorem dX12_letter_9 : decode cX12_letter 9 = .ok (.iload_n 1, 1) := by decide +kernel
theorem dX12_letter_10 : decode cX12_letter 10 = .ok (.aload_n 0, 1) := by decide +kernel
theorem dX12_letter_11 : decode cX12_letter 11 = .ok (.getfield 933, 3) := by decide +kernel
theorem dX12_letter_14 : decode cX12_letter 14 = .ok (.if_icmp .lt 7, 3) := by decide +kernel
theorem dX12_letter_17 : decode cX12_letter 17 = .ok (.iconst (-1), 1) := by decide +kernel
theorem dX12_letter_18 : decode cX12_letter 18 = .ok (.goto 13, 3) := by decide +kernel
theorem dX12_letter_21 : decode cX12_letter 21 = .ok (.aload_n 0, 1) := by decide +kernel
theorem dX12_letter_22 : decode cX12_letter 22 = .ok (.getfield 248, 3) := by decide +kernel
theorem dX12_letter_25 : decode cX12_letter 25 = .ok (.iload_n 1, 1) := by decide +kernel
theorem dX12_letter_26 : decode cX12_letter 26 = .ok (.baload, 1) := by decide +kernel
theorem dX12_letter_27 : decode cX12_letter 27 = .ok (.sipush 255, 3) := by decide +kernel
theorem dX12_letter_30 : decode cX12_letter 30 = .ok (.iand, 1) := by decide +kernel
theorem dX12_letter_31 : decode cX12_letter 31 = .ok (.ireturn, 1) := by decide +kernel
theorem iX12_letter_in12 : ∀ w ∈ wsX120, w ∈ wsX12_letter := fun _ h => List.mem_cons_of_mem _ (List.mem_append_right _ h)
set_option maxHeartbeats 4000000 in
set_option maxRecDepth 100000 in
/-- letter(i) -/
theorem c_X12_letter (l : Launch) (dC : Nat → ClassId) (dI : Nat → Nat → Nat) (h0 : Nat) (v : Nat → Value) (x_printed : Int32) (h_printed : v 125 = .int x_printed) (b_out : Nat) (h_out : v 124 = .ref b_out) (k_out : ClassId) (r_out : Nat → Int32) (hps : x_printed.toInt ≤ 30000) (i : Int32) (sz : Nat) : Met l yX12_letter wsX12_letter ({ frames := 0, cells := 0, slots := 0, locals := 0 }) (va_Pc [.ref h0, .int i] (fun U => U.heap.size = sz ∧ va_P (dC, dI) vwCl [(h0, .inr (12, fM v)), (b_out, .inl (k_out, 30000, .inl r_out))] U.heap ∧ va_K (dC, dI) vwCl [(k_out, .byte)] U ∧ va_D (fun _ => True) [(h0, .inr (12, fM v)), (b_out, .inl (k_out, 30000, .inl r_out))])) (va_Qi (fun (r : Int32) (w : (Nat → Value)) => r = (if i < 0 then -1 else if i < x_printed then r_out i.toNatClampNeg &&& 255 else -1) ∧ w = mUp v 0 (.int 0)) (fun w t => va_P (dC, dI) vwCl [(h0, .inr (12, fM w)), (b_out, .inl (k_out, 30000, .inl r_out))] t.heap ∧ va_K (dC, dI) vwCl [(k_out, .byte)] t ∧ va_D (va_A [(h0, .inr (12, fM v)), (b_out, .inl (k_out, 30000, .inl r_out))] sz) [(h0, .inr (12, fM w)), (b_out, .inl (k_out, 30000, .inl r_out))]) (va_A [(h0, .inr (12, fM v)), (b_out, .inl (k_out, 30000, .inl r_out))] sz)) 0 0 (va_A [(h0, .inr (12, fM v)), (b_out, .inl (k_out, 30000, .inl r_out))] sz) := by
  refine Met.ofW (cc := cX12_letter) (maxL := 2) (ret := (some .int)) (by decide) rfl ?_
  intro p e s m args below meth c s₁ B hml hv
  obtain ⟨rfl, hsz, hP, hK, hD0⟩ := hv
  have hx := B.exec
  have hb := B.bytes
  have hr := B.returns
  have hts := atoms_spec (ws := wsX12_letter) B.pre
  have hown : s.vm.findClass RX12 = some m.cls := findClass_of_methodNamed B.named
  have hlocks := B.notSynchronized
  subst hsz
  have hD := hD0.self (sz := s.heap.size)
  generalize hAe : va_A [(h0, .inr (12, fM v)), (b_out, .inl (k_out, 30000, .inl r_out))] s.heap.size = A at hD ⊢
  have hA : ∀ q : Nat, s.heap.size ≤ q → A q := fun q h => by rw [← hAe]; exact Or.inr h
  have hS : va_S A s.heap s.heap [] := va_S.rf
  have hP : va_P (dC, dI) vwCl [(h0, .inr (12, fM v)), (b_out, .inl (k_out, 30000, .inl r_out))] s.heap := hP
  have hl := lv_entry ([.ref h0, .int i]) (n := 2) (Nat.le_of_ble_eq_true rfl)
  rw [lg_entry_eq]
  generalize (lg_sl ([.ref h0, .int i]) ++ List.replicate (2 - (lg_sl ([.ref h0, .int i])).length) Slot.unset).toArray = ls at hl ⊢
  have hl : lv_has ls 2 [(0, .ref h0), (1, .int i)] := hl
  refine lv_aload_n hx hb dX12_letter_0 rfl (lv_at hl 0 rfl) ?_
  refine lv_iconst (v := 0) hx hb dX12_letter_1 (by decide) ?_
  refine va_put (D := (dC, dI)) (ci := 12) (v := .int 0) (ty := .int) (C := RX12) (T := TX12) (N := 163) hx hb hts iX12_letter_in12 tyX12 tyX12_ok nmX12 hown hK hP hD hS 0 rfl rfl 0 (by decide) (hts (.fieldLink RX12 348 "OptimaWorksModel" "thrown" "I") (by decide +kernel)) (fun _ h9 => h9) rfl (by decide +kernel) rfl rfl (Nat.le_of_ble_eq_true rfl) dX12_letter_2 (fun H locs hP hD hS => ?_)
  have hP : va_P (dC, dI) vwCl [(h0, .inr (12, fM (mUp v 0 (.int 0)))), (b_out, .inl (k_out, 30000, .inl r_out))] H := hP
  have hD : va_D A [(h0, .inr (12, fM (mUp v 0 (.int 0)))), (b_out, .inl (k_out, 30000, .inl r_out))] := hD
  refine lv_iload_n hx hb dX12_letter_5 rfl (lv_at hl 1 rfl) ?_
  refine lv_if_lt (tgt := 17) hx hb dX12_letter_6 (by decide) (fun c_6 => ?_) (fun c_6 => ?_)
  · refine lv_iconst (v := (-1)) hx hb dX12_letter_17 (by decide) ?_
    refine lv_goto (tgt := 31) hx hb dX12_letter_18 (by decide) ?_
    refine W.widen (k := 0) (n := 0) (by decide +kernel) (by decide +kernel) ?_
    exact W.iret (v := (-1)) hx hb hr (fun t ht hW => ⟨⟨(-1), (mUp v 0 (.int 0)), rfl, ⟨by simp [c_6], rfl⟩, by rw [ht]; exact hP, va_K.moved hW.alike hK, hD⟩, hS.F ht⟩) hS.2.2 dX12_letter_31
  · refine lv_iload_n hx hb dX12_letter_9 rfl (lv_at hl 1 rfl) ?_
    refine lv_aload_n hx hb dX12_letter_10 rfl (lv_at hl 0 rfl) ?_
    refine va_get (D := (dC, dI)) (ci := 12) (v := .int x_printed) (C := RX12) (T := TX12) (N := 163) hx hb hts iX12_letter_in12 hown hK hP 0 rfl rfl 125 (by decide) (hts (.fieldLink RX12 933 "OptimaWorksModel" "printed" "I") (by decide +kernel)) (fun _ h9 => h9) (congrArg some h_printed) dX12_letter_11 ?_
    refine lv_icmp_lt (tgt := 21) hx hb dX12_letter_14 (by decide) (fun c_14 => ?_) (fun c_14 => ?_)
    · refine lv_aload_n hx hb dX12_letter_21 rfl (lv_at hl 0 rfl) ?_
      refine va_get (D := (dC, dI)) (ci := 12) (v := .ref b_out) (C := RX12) (T := TX12) (N := 163) hx hb hts iX12_letter_in12 hown hK hP 0 rfl rfl 124 (by decide) (hts (.fieldLink RX12 248 "OptimaWorksModel" "out" "[B") (by decide +kernel)) (fun _ h9 => h9) (congrArg some h_out) dX12_letter_22 ?_
      refine lv_iload_n hx hb dX12_letter_25 rfl (lv_at hl 1 rfl) ?_
      refine va_bald hx hb hK hP 1 0 rfl rfl (vp_in_iff.mpr (by have t_c_6 : ¬ (i : Int32).toInt < (0 : Int32).toInt := fun h => c_6 ((Int32.lt_iff_toInt_lt).mpr h); have t_c_14 : (i : Int32).toInt < (x_printed : Int32).toInt := (Int32.lt_iff_toInt_lt).mp c_14; have z2 : (0 : Int32).toInt = 0 := (by decide); have e_0 := hps; omega)) dX12_letter_26 ?_
      refine lv_sipush (v := 255) hx hb dX12_letter_27 (by decide) ?_
      refine lv_iand hx hb dX12_letter_30 ?_
      refine W.widen (k := 0) (n := 0) (by decide +kernel) (by decide +kernel) ?_
      exact W.iret (v := ((r_out (i).toNatClampNeg) &&& 255)) hx hb hr (fun t ht hW => ⟨⟨((r_out (i).toNatClampNeg) &&& 255), (mUp v 0 (.int 0)), rfl, ⟨by simp [c_6, c_14], rfl⟩, by rw [ht]; exact hP, va_K.moved hW.alike hK, hD⟩, hS.F ht⟩) hS.2.2 dX12_letter_31
    · refine lv_iconst (v := (-1)) hx hb dX12_letter_17 (by decide) ?_
      refine lv_goto (tgt := 31) hx hb dX12_letter_18 (by decide) ?_
      refine W.widen (k := 0) (n := 0) (by decide +kernel) (by decide +kernel) ?_
      exact W.iret (v := (-1)) hx hb hr (fun t ht hW => ⟨⟨(-1), (mUp v 0 (.int 0)), rfl, ⟨by simp [c_6, c_14], rfl⟩, by rw [ht]; exact hP, va_K.moved hW.alike hK, hD⟩, hS.F ht⟩) hS.2.2 dX12_letter_31

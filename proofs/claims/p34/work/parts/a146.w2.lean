theorem hd_yX8_addSize_RX8 : yX8_addSize.cls = RX8 ∧ yX8_addSize.cls ≠ "java/lang/invoke/MethodHandle" ∧ yX8_addSize.cls ≠ "java/lang/invoke/VarHandle" ∧ (parseMethodDescriptor yX8_addSize.desc).map (fun d => d.parameters.length) = some 1 := by decide +kernel
theorem hd_yX8_compareSize_RX8 : yX8_compareSize.cls = RX8 ∧ yX8_compareSize.cls ≠ "java/lang/invoke/MethodHandle" ∧ yX8_compareSize.cls ≠ "java/lang/invoke/VarHandle" ∧ (parseMethodDescriptor yX8_compareSize.desc).map (fun d => d.parameters.length) = some 1 := by decide +kernel
theorem hd_yX8_takeSize_RX8 : yX8_takeSize.cls = RX8 ∧ yX8_takeSize.cls ≠ "java/lang/invoke/MethodHandle" ∧ yX8_takeSize.cls ≠ "java/lang/invoke/VarHandle" ∧ (parseMethodDescriptor yX8_takeSize.desc).map (fun d => d.parameters.length) = some 2 := by decide +kernel
theorem hd_yX8_trim_RX8 : yX8_trim.cls = RX8 ∧ yX8_trim.cls ≠ "java/lang/invoke/MethodHandle" ∧ yX8_trim.cls ≠ "java/lang/invoke/VarHandle" ∧ (parseMethodDescriptor yX8_trim.desc).map (fun d => d.parameters.length) = some 0 := by decide +kernel
theorem dX8_trim_0 : decode cX8_trim 0 = .ok (.aload_n 0, 1) := dk_42 (by decide +kernel)
theorem dX8_trim_1 : decode cX8_trim 1 = .ok (.getfield 17, 3) := dk_180 (by decide +kernel)
theorem dX8_trim_4 : decode cX8_trim 4 = .ok (.ifCond .le 32, 3) := dk_158 (by decide +kernel)
theorem dX8_trim_7 : decode cX8_trim 7 = .ok (.aload_n 0, 1) := dk_42 (by decide +kernel)
theorem dX8_trim_8 : decode cX8_trim 8 = .ok (.getfield 9, 3) := dk_180 (by decide +kernel)
theorem dX8_trim_11 : decode cX8_trim 11 = .ok (.aload_n 0, 1) := dk_42 (by decide +kernel)
theorem dX8_trim_12 : decode cX8_trim 12 = .ok (.getfield 17, 3) := dk_180 (by decide +kernel)
theorem dX8_trim_15 : decode cX8_trim 15 = .ok (.iconst 1, 1) := dk_4 (by decide +kernel)
theorem dX8_trim_16 : decode cX8_trim 16 = .ok (.isub, 1) := dk_100 (by decide +kernel)
theorem dX8_trim_17 : decode cX8_trim 17 = .ok (.laload, 1) := dk_47 (by decide +kernel)
theorem dX8_trim_18 : decode cX8_trim 18 = .ok (.lconst 0, 1) := dk_9 (by decide +kernel)
theorem dX8_trim_19 : decode cX8_trim 19 = .ok (.lcmp, 1) := dk_148 (by decide +kernel)
theorem dX8_trim_20 : decode cX8_trim 20 = .ok (.ifCond .ne 16, 3) := dk_154 (by decide +kernel)
theorem dX8_trim_23 : decode cX8_trim 23 = .ok (.aload_n 0, 1) := dk_42 (by decide +kernel)
theorem dX8_trim_24 : decode cX8_trim 24 = .ok (.dup, 1) := dk_89 (by decide +kernel)
theorem dX8_trim_25 : decode cX8_trim 25 = .ok (.getfield 17, 3) := dk_180 (by decide +kernel)
theorem dX8_trim_28 : decode cX8_trim 28 = .ok (.iconst 1, 1) := dk_4 (by decide +kernel)
theorem dX8_trim_29 : decode cX8_trim 29 = .ok (.isub, 1) := dk_100 (by decide +kernel)
theorem dX8_trim_30 : decode cX8_trim 30 = .ok (.putfield 17, 3) := dk_181 (by decide +kernel)
theorem dX8_trim_33 : decode cX8_trim 33 = .ok (.goto (-33), 3) := dk_167 (by decide +kernel)
theorem dX8_trim_36 : decode cX8_trim 36 = .ok (.aload_n 0, 1) := dk_42 (by decide +kernel)
theorem dX8_trim_37 : decode cX8_trim 37 = .ok (.aload_n 0, 1) := dk_42 (by decide +kernel)
theorem dX8_trim_38 : decode cX8_trim 38 = .ok (.getfield 13, 3) := dk_180 (by decide +kernel)
theorem dX8_trim_41 : decode cX8_trim 41 = .ok (.ifCond .eq 14, 3) := dk_153 (by decide +kernel)
theorem dX8_trim_44 : decode cX8_trim 44 = .ok (.aload_n 0, 1) := dk_42 (by decide +kernel)
theorem dX8_trim_45 : decode cX8_trim 45 = .ok (.getfield 17, 3) := dk_180 (by decide +kernel)
theorem dX8_trim_48 : decode cX8_trim 48 = .ok (.ifCond .eq 7, 3) := dk_153 (by decide +kernel)
theorem dX8_trim_51 : decode cX8_trim 51 = .ok (.iconst 1, 1) := dk_4 (by decide +kernel)
theorem dX8_trim_52 : decode cX8_trim 52 = .ok (.goto 4, 3) := dk_167 (by decide +kernel)
theorem dX8_trim_55 : decode cX8_trim 55 = .ok (.iconst 0, 1) := dk_3 (by decide +kernel)
theorem dX8_trim_56 : decode cX8_trim 56 = .ok (.putfield 13, 3) := dk_181 (by decide +kernel)
theorem dX8_trim_59 : decode cX8_trim 59 = .ok (.return_, 1) := dk_177 (by decide +kernel)
def wsMX8_trim : List Cond := .code yX8_trim cX8_trim 1 none :: ([.fieldLink RX8 17 "OptimaWorks$Whole" "length" "I", .fieldLink RX8 9 "OptimaWorks$Whole" "limb" "[J", .fieldLink RX8 13 "OptimaWorks$Whole" "below" "Z"] ++ wsX80)
theorem iwsMX8_trim_in8 : ∀ w ∈ wsX80, w ∈ wsMX8_trim := fun _ h => List.mem_cons_of_mem _ (List.mem_append_right _ h)
theorem gdwsMX8_trim : wsMX8_trim.all goodWord = true := gdC rfl (gdA (by decide +kernel : ([.fieldLink RX8 17 "OptimaWorks$Whole" "length" "I", .fieldLink RX8 9 "OptimaWorks$Whole" "limb" "[J", .fieldLink RX8 13 "OptimaWorks$Whole" "below" "Z"] : List Cond).all goodWord = true) gdwsX80)
set_option maxHeartbeats 4000000 in
set_option maxRecDepth 100000 in
/-- without noughts -/
theorem m_X8_trim (l : Launch) (dC : Nat → ClassId) (dI : Nat → Nat → Nat) (nW : Nat) (hw : Nat → Nat) (lw : Nat → Nat) (kw : ClassId) (wl : Nat → Int32) (wb : Nat → Int32) (wG : Nat → Nat → Int64) (tt : Nat) (b_wl : ∀ q : Nat, 0 ≤ (wl q).toInt ∧ (wl q).toInt ≤ 14) (b_wb : ∀ q : Nat, 0 ≤ (wb q).toInt ∧ (wb q).toInt ≤ 1) (htt : tt < nW) (sz : Nat) : Met l yX8_trim wsMX8_trim ({ frames := 0, cells := 0, slots := 0, locals := 0 }) (va_Pc [.ref (hw tt)] (fun U => U.heap.size = sz ∧ va_P (dC, dI) vwCl (WW nW hw lw kw wl wb wG) U.heap ∧ va_K (dC, dI) vwCl (tW kw) U ∧ va_D (fun _ => True) (WW nW hw lw kw wl wb wG))) (va_Qv (fun (u : (Nat → Int32) × (Nat → Int32)) => (∀ q : Nat, 0 ≤ ((u.1) q).toInt ∧ ((u.1) q).toInt ≤ 14) ∧ (∀ q : Nat, 0 ≤ ((u.2) q).toInt ∧ ((u.2) q).toInt ≤ 1)) (fun (u : (Nat → Int32) × (Nat → Int32)) t => va_P (dC, dI) vwCl (WW nW hw lw kw (u.1) (u.2) wG) t.heap ∧ va_D (va_A (WW nW hw lw kw wl wb wG) sz) (WW nW hw lw kw (u.1) (u.2) wG)) (va_A (WW nW hw lw kw wl wb wG) sz)) 0 0 (va_A (WW nW hw lw kw wl wb wG) sz) := by
  refine Met.ofW (cc := cX8_trim) (maxL := 1) (ret := none) (by decide) rfl ?_
  intro p e s m args below meth c s₁ B hml hv
  obtain ⟨rfl, hsz, hP, hK, hD0⟩ := hv
  have hx := B.exec
  have hb := B.bytes
  have hr := B.returns
  have hts := atoms_spec (ws := wsMX8_trim) B.pre
  have hown : s.vm.findClass RX8 = some m.cls := findClass_of_methodNamed B.named
  have hlocks := B.notSynchronized
  subst hsz
  have hD := hD0.self (sz := s.heap.size)
  generalize hAe : va_A (WW nW hw lw kw wl wb wG) s.heap.size = A at hD ⊢
  have hA : ∀ q : Nat, s.heap.size ≤ q → A q := fun q h => by rw [← hAe]; exact Or.inr h
  have hS : va_S A s.heap s.heap [] := va_S.rf
  have hl := lv_entry ([.ref (hw tt)]) (n := 1) (Nat.le_of_ble_eq_true rfl)
  rw [lg_entry_eq]
  generalize (lg_sl ([.ref (hw tt)]) ++ List.replicate (1 - (lg_sl ([.ref (hw tt)])).length) Slot.unset).toArray = ls at hl ⊢
  have hl : lv_has ls 1 [(0, .ref (hw tt))] := hl
  have hl : lv_has _ _ ([(0, .ref (hw tt))]) := lv_sub hl [0] rfl
  refine (fun (loop : ∀ (n9 : Nat) (wl_x0 : Nat → Int32) (H : Heap) (locs : List Loc) (ls : Array Slot), (∀ q : Nat, 0 ≤ (wl_x0 q).toInt ∧ (wl_x0 q).toInt ≤ 14) → ((wl_x0 tt).toInt < ((n9 : Nat) : Int)) → va_P (dC, dI) vwCl (WW nW hw lw kw wl_x0 wb wG) H → va_D A (WW nW hw lw kw wl_x0 wb wG) → va_S A s.heap H locs → lv_has ls 1 [(0, .ref (hw tt))] → W p l e _ s m _ below meth c H locs 0 0 _ (F0 m 0 ls [])) => loop (15) wl _ _ _ b_wl ((by have h9 := b_wl tt; omega)) hP hD hS hl) ?_
  intro n9
  induction n9 with
  | zero => intro wl_x0 H locs ls b_wl_x0 hf9; exact False.elim (by have h9 := b_wl_x0 tt; omega)
  | succ n9 ihx0 =>
    intro wl_x0 H locs ls b_wl_x0 hfx0 hP hD hS hl
    refine lv_aload_n hx hb dX8_trim_0 rfl (lv_at hl 0 rfl) ?_
    refine va_get (D := (dC, dI)) (ci := 8) (v := .int (wl_x0 tt)) (C := RX8) (T := TX8) (N := 3) hx hb hts iwsMX8_trim_in8 hown hK hP (tt) (WW_o (by omega)) rfl 1 (by decide) (hts (.fieldLink RX8 17 "OptimaWorks$Whole" "length" "I") (by decide +kernel)) (fun _ h9 => h9) rfl dX8_trim_1 ?_
    have br1 := b_wl_x0 tt
    refine W.cut (pc := 36) (fun H locs ls stk =>  stk = [] ∧ va_P (dC, dI) vwCl (WW nW hw lw kw wl_x0 wb wG) H ∧ va_D A (WW nW hw lw kw wl_x0 wb wG) ∧ va_S A s.heap H locs ∧ lv_has ls 1 [(0, .ref (hw tt))]) (fun join7 => ?_) ?_
    · refine lv_if_le (tgt := 36) hx hb dX8_trim_4 (by decide) (fun c_4 => ?_) (fun c_4 => ?_)
      · have t_4 : (wl_x0 tt).toInt ≤ 0 := toI_le c_4 rfl (by decide : (0 : Int32).toInt = 0)
        have hl : lv_has _ _ ([(0, .ref (hw tt))]) := lv_sub hl [0] rfl
        exact join7 _ _ _ _ ⟨rfl, hP, hD, hS, hl⟩
      · have t_4 : ¬ (wl_x0 tt).toInt ≤ 0 := toI_nle c_4 rfl (by decide : (0 : Int32).toInt = 0)
        refine lv_aload_n hx hb dX8_trim_7 rfl (lv_at hl 0 rfl) ?_
        refine va_get (D := (dC, dI)) (ci := 8) (v := .ref (lw tt)) (C := RX8) (T := TX8) (N := 3) hx hb hts iwsMX8_trim_in8 hown hK hP (tt) (WW_o (by omega)) rfl 0 (by decide) (hts (.fieldLink RX8 9 "OptimaWorks$Whole" "limb" "[J") (by decide +kernel)) (fun _ h9 => h9) rfl dX8_trim_8 ?_
        refine lv_aload_n hx hb dX8_trim_11 rfl (lv_at hl 0 rfl) ?_
        refine va_get (D := (dC, dI)) (ci := 8) (v := .int (wl_x0 tt)) (C := RX8) (T := TX8) (N := 3) hx hb hts iwsMX8_trim_in8 hown hK hP (tt) (WW_o (by omega)) rfl 1 (by decide) (hts (.fieldLink RX8 17 "OptimaWorks$Whole" "length" "I") (by decide +kernel)) (fun _ h9 => h9) rfl dX8_trim_12 ?_
        have br12 := b_wl_x0 tt
        refine lv_iconst (v := 1) hx hb dX8_trim_15 (by decide) ?_
        refine lv_isub hx hb dX8_trim_16 ?_
        refine lv_topi (fun y14 hy14 => ?_)
        obtain rfl : (iI ((wl_x0 tt).toInt - 1)) = y14 := (hy14.trans (iI_sub2 (iI_of _) (by decide : (1 : Int32) = iI 1))).symm
        refine va_lald (cA := kw) (n := 14) (f := (wG tt)) hx hb hK hP (nW + tt) 0 (WW_a (by omega)) rfl (vp_iI (by omega) (by omega) (by decide)) dX8_trim_17 ?_
        refine lv_topl (fun v15 hv15 => ?_)
        clear hv15
        refine lv_lconst (v := 0) hx hb dX8_trim_18 (by decide) ?_
        refine W.lcmp hx hb dX8_trim_19 ?_
        refine lv_if_ne (tgt := 36) hx hb dX8_trim_20 (by decide) (fun c_20 => ?_) (fun c_20 => ?_)
        · have t_20 : v15.toInt ≠ 0 := toL_ne c_20 rfl (by decide : (0 : Int64).toInt = 0)
          have hl : lv_has _ _ ([(0, .ref (hw tt))]) := lv_sub hl [0] rfl
          exact join7 _ _ _ _ ⟨rfl, hP, hD, hS, hl⟩
        · have t_20 : v15.toInt = 0 := toL_nne c_20 rfl (by decide : (0 : Int64).toInt = 0)
          refine lv_aload_n hx hb dX8_trim_23 rfl (lv_at hl 0 rfl) ?_
          refine lv_dup hx hb dX8_trim_24 rfl ?_
          refine va_get (D := (dC, dI)) (ci := 8) (v := .int (wl_x0 tt)) (C := RX8) (T := TX8) (N := 3) hx hb hts iwsMX8_trim_in8 hown hK hP (tt) (WW_o (by omega)) rfl 1 (by decide) (hts (.fieldLink RX8 17 "OptimaWorks$Whole" "length" "I") (by decide +kernel)) (fun _ h9 => h9) rfl dX8_trim_25 ?_
          have br25 := b_wl_x0 tt
          refine lv_iconst (v := 1) hx hb dX8_trim_28 (by decide) ?_
          refine lv_isub hx hb dX8_trim_29 ?_
          refine lv_topi (fun y16 hy16 => ?_)
          obtain rfl : (iI ((wl_x0 tt).toInt - 1)) = y16 := (hy16.trans (iI_sub2 (iI_of _) (by decide : (1 : Int32) = iI 1))).symm
          refine va_put (D := (dC, dI)) (ci := 8) (v := .int (iI ((wl_x0 tt).toInt - 1))) (ty := .int) (C := RX8) (T := TX8) (N := 3) hx hb hts iwsMX8_trim_in8 tyX8 tyX8_ok nmX8 hown hK hP hD hS (tt) (WW_o (by omega)) rfl 1 (by decide) (hts (.fieldLink RX8 17 "OptimaWorks$Whole" "length" "I") (by decide +kernel)) (fun _ h9 => h9) rfl (by decide +kernel) rfl rfl (Nat.le_of_ble_eq_true rfl) dX8_trim_30 (fun H locs hP hD hS => ?_)
          obtain ⟨u17, hu17⟩ : ∃ f9, f9 = fT wl_x0 tt (iI ((wl_x0 tt).toInt - 1)) := ⟨_, rfl⟩
          have hP : va_P (dC, dI) vwCl (WW nW hw lw kw u17 wb wG) H := by rw [hu17]; exact Eq.mp (congrArg (fun z9 => va_P (dC, dI) vwCl z9 H) (WW_sl (by omega) (iI ((wl_x0 tt).toInt - 1)))) hP
          have hD : va_D A (WW nW hw lw kw u17 wb wG) := by rw [hu17]; exact Eq.mp (congrArg (fun z9 => va_D A z9) (WW_sl (by omega) (iI ((wl_x0 tt).toInt - 1)))) hD
          have b_u17 : ∀ q : Nat, 0 ≤ (u17 q).toInt ∧ (u17 q).toInt ≤ 14 := by rw [hu17]; exact fT_r b_wl_x0 (iI_rng (by omega) (by omega) (by decide) (by decide))
          have q_u17 : (u17 tt).toInt = ((wl_x0 tt).toInt - 1) := by rw [hu17, fT_eq]; exact (iI_t (by omega) (by omega))
          clear hu17
          refine lv_goto (tgt := 0) hx hb dX8_trim_33 (by decide) ?_
          have hl : lv_has _ _ ([(0, .ref (hw tt))]) := lv_sub hl [0] rfl
          exact ihx0 u17 _ _ _ b_u17 (by omega) hP hD hS hl
    · rintro H locs ls stk ⟨rfl, hP, hD, hS, hl⟩
      refine lv_aload_n hx hb dX8_trim_36 rfl (lv_at hl 0 rfl) ?_
      refine lv_aload_n hx hb dX8_trim_37 rfl (lv_at hl 0 rfl) ?_
      refine va_get (D := (dC, dI)) (ci := 8) (v := .int (wb tt)) (C := RX8) (T := TX8) (N := 3) hx hb hts iwsMX8_trim_in8 hown hK hP (tt) (WW_o (by omega)) rfl 2 (by decide) (hts (.fieldLink RX8 13 "OptimaWorks$Whole" "below" "Z") (by decide +kernel)) (fun _ h9 => h9) rfl dX8_trim_38 ?_
      have br38 := b_wb tt
      refine W.cut (pc := 56) (fun H locs ls stk => ∃ (k0_j8 : Int32), (0 ≤ k0_j8.toInt ∧ k0_j8.toInt ≤ 1) ∧  stk = [.int k0_j8, .ref (hw tt)] ∧ va_P (dC, dI) vwCl (WW nW hw lw kw wl_x0 wb wG) H ∧ va_D A (WW nW hw lw kw wl_x0 wb wG) ∧ va_S A s.heap H locs ∧ lv_has ls 1 [(0, .ref (hw tt))]) (fun join8 => ?_) ?_
      · refine lv_if_eq (tgt := 55) hx hb dX8_trim_41 (by decide) (fun c_41 => ?_) (fun c_41 => ?_)
        · have t_41 : (wb tt).toInt = 0 := toI_eq c_41 rfl (by decide : (0 : Int32).toInt = 0)
          refine lv_iconst (v := 0) hx hb dX8_trim_55 (by decide) ?_
          have hl : lv_has _ _ ([(0, .ref (hw tt))]) := lv_sub hl [0] rfl
          exact join8 _ _ _ _ ⟨0, (show 0 ≤ (0 : Int32).toInt ∧ (0 : Int32).toInt ≤ 1 from by decide), rfl, hP, hD, hS, hl⟩
        · have t_41 : ¬ (wb tt).toInt = 0 := toI_neq c_41 rfl (by decide : (0 : Int32).toInt = 0)
          refine lv_aload_n hx hb dX8_trim_44 rfl (lv_at hl 0 rfl) ?_
          refine va_get (D := (dC, dI)) (ci := 8) (v := .int (wl_x0 tt)) (C := RX8) (T := TX8) (N := 3) hx hb hts iwsMX8_trim_in8 hown hK hP (tt) (WW_o (by omega)) rfl 1 (by decide) (hts (.fieldLink RX8 17 "OptimaWorks$Whole" "length" "I") (by decide +kernel)) (fun _ h9 => h9) rfl dX8_trim_45 ?_
          have br45 := b_wl_x0 tt
          refine lv_if_eq (tgt := 55) hx hb dX8_trim_48 (by decide) (fun c_48 => ?_) (fun c_48 => ?_)
          · have t_48 : (wl_x0 tt).toInt = 0 := toI_eq c_48 rfl (by decide : (0 : Int32).toInt = 0)
            refine lv_iconst (v := 0) hx hb dX8_trim_55 (by decide) ?_
            have hl : lv_has _ _ ([(0, .ref (hw tt))]) := lv_sub hl [0] rfl
            exact join8 _ _ _ _ ⟨0, (show 0 ≤ (0 : Int32).toInt ∧ (0 : Int32).toInt ≤ 1 from by decide), rfl, hP, hD, hS, hl⟩
          · have t_48 : ¬ (wl_x0 tt).toInt = 0 := toI_neq c_48 rfl (by decide : (0 : Int32).toInt = 0)
            refine lv_iconst (v := 1) hx hb dX8_trim_51 (by decide) ?_
            refine lv_goto (tgt := 56) hx hb dX8_trim_52 (by decide) ?_
            have hl : lv_has _ _ ([(0, .ref (hw tt))]) := lv_sub hl [0] rfl
            exact join8 _ _ _ _ ⟨1, (show 0 ≤ (1 : Int32).toInt ∧ (1 : Int32).toInt ≤ 1 from by decide), rfl, hP, hD, hS, hl⟩
      · rintro H locs ls stk ⟨k0_j8, b_k0_j8, rfl, hP, hD, hS, hl⟩
        refine va_put (D := (dC, dI)) (ci := 8) (v := .int k0_j8) (ty := .boolean) (C := RX8) (T := TX8) (N := 3) hx hb hts iwsMX8_trim_in8 tyX8 tyX8_ok nmX8 hown hK hP hD hS (tt) (WW_o (by omega)) rfl 2 (by decide) (hts (.fieldLink RX8 13 "OptimaWorks$Whole" "below" "Z") (by decide +kernel)) (fun _ h9 => h9) rfl (by decide +kernel) (by rcases z01 (x := k0_j8) (b_k0_j8) with h9 | h9 <;> rw [h9] <;> rfl) (by rcases z01 (x := k0_j8) (b_k0_j8) with h9 | h9 <;> rw [h9] <;> rfl) (Nat.le_of_ble_eq_true rfl) dX8_trim_56 (fun H locs hP hD hS => ?_)
        obtain ⟨u18, hu18⟩ : ∃ f9, f9 = fT wb tt k0_j8 := ⟨_, rfl⟩
        have hP : va_P (dC, dI) vwCl (WW nW hw lw kw wl_x0 u18 wG) H := by rw [hu18]; exact Eq.mp (congrArg (fun z9 => va_P (dC, dI) vwCl z9 H) (WW_sb (by omega) k0_j8)) hP
        have hD : va_D A (WW nW hw lw kw wl_x0 u18 wG) := by rw [hu18]; exact Eq.mp (congrArg (fun z9 => va_D A z9) (WW_sb (by omega) k0_j8)) hD
        have b_u18 : ∀ q : Nat, 0 ≤ (u18 q).toInt ∧ (u18 q).toInt ≤ 1 := by rw [hu18]; exact fT_r b_wb (b_k0_j8)
        have q_u18 : (u18 tt).toInt = k0_j8.toInt := by rw [hu18, fT_eq]
        clear hu18
        refine W.widen (k := 0) (n := 0) (by decide +kernel) (by decide +kernel) ?_
        exact W.vret hx hb hr (fun t9_ ht hW => ⟨⟨(wl_x0, u18), rfl, ⟨b_wl_x0, b_u18⟩, by rw [ht]; exact hP, hD⟩, hS.F ht⟩) hS.2.2 dX8_trim_59
theorem dX8_compareSize_0 : decode cX8_compareSize 0 = .ok (.aload_n 0, 1) := dk_42 (by decide +kernel)
theorem dX8_compareSize_1 : decode cX8_compareSize 1 = .ok (.getfield 17, 3) := dk_180 (by decide +kernel)
theorem dX8_compareSize_4 : decode cX8_compareSize 4 = .ok (.aload_n 1, 1) := dk_43 (by decide +kernel)
theorem dX8_compareSize_5 : decode cX8_compareSize 5 = .ok (.getfield 17, 3) := dk_180 (by decide +kernel)
theorem dX8_compareSize_8 : decode cX8_compareSize 8 = .ok (.if_icmp .eq 20, 3) := dk_159 (by decide +kernel)
theorem dX8_compareSize_11 : decode cX8_compareSize 11 = .ok (.aload_n 0, 1) := dk_42 (by decide +kernel)
theorem dX8_compareSize_12 : decode cX8_compareSize 12 = .ok (.getfield 17, 3) := dk_180 (by decide +kernel)
theorem dX8_compareSize_15 : decode cX8_compareSize 15 = .ok (.aload_n 1, 1) := dk_43 (by decide +kernel)
theorem dX8_compareSize_16 : decode cX8_compareSize 16 = .ok (.getfield 17, 3) := dk_180 (by decide +kernel)
theorem dX8_compareSize_19 : decode cX8_compareSize 19 = .ok (.if_icmp .ge 7, 3) := dk_162 (by decide +kernel)
theorem dX8_compareSize_22 : decode cX8_compareSize 22 = .ok (.iconst (-1), 1) := dk_2 (by decide +kernel)
theorem dX8_compareSize_23 : decode cX8_compareSize 23 = .ok (.goto 4, 3) := dk_167 (by decide +kernel)
theorem dX8_compareSize_26 : decode cX8_compareSize 26 = .ok (.iconst 1, 1) := dk_4 (by decide +kernel)
theorem dX8_compareSize_27 : decode cX8_compareSize 27 = .ok (.ireturn, 1) := dk_172 (by decide +kernel)
theorem dX8_compareSize_28 : decode cX8_compareSize 28 = .ok (.aload_n 0, 1) := dk_42 (by decide +kernel)
theorem dX8_compareSize_29 : decode cX8_compareSize 29 = .ok (.getfield 17, 3) := dk_180 (by decide +kernel)
theorem dX8_compareSize_32 : decode cX8_compareSize 32 = .ok (.iconst 1, 1) := dk_4 (by decide +kernel)
theorem dX8_compareSize_33 : decode cX8_compareSize 33 = .ok (.isub, 1) := dk_100 (by decide +kernel)
theorem dX8_compareSize_34 : decode cX8_compareSize 34 = .ok (.istore_n 2, 1) := dk_61 (by decide +kernel)
theorem dX8_compareSize_35 : decode cX8_compareSize 35 = .ok (.iload_n 2, 1) := dk_28 (by decide +kernel)
theorem dX8_compareSize_36 : decode cX8_compareSize 36 = .ok (.ifCond .lt 47, 3) := dk_155 (by decide +kernel)
theorem dX8_compareSize_39 : decode cX8_compareSize 39 = .ok (.aload_n 0, 1) := dk_42 (by decide +kernel)
theorem dX8_compareSize_40 : decode cX8_compareSize 40 = .ok (.getfield 9, 3) := dk_180 (by decide +kernel)
theorem dX8_compareSize_43 : decode cX8_compareSize 43 = .ok (.iload_n 2, 1) := dk_28 (by decide +kernel)
theorem dX8_compareSize_44 : decode cX8_compareSize 44 = .ok (.laload, 1) := dk_47 (by decide +kernel)
theorem dX8_compareSize_45 : decode cX8_compareSize 45 = .ok (.aload_n 1, 1) := dk_43 (by decide +kernel)
theorem dX8_compareSize_46 : decode cX8_compareSize 46 = .ok (.getfield 9, 3) := dk_180 (by decide +kernel)
theorem dX8_compareSize_49 : decode cX8_compareSize 49 = .ok (.iload_n 2, 1) := dk_28 (by decide +kernel)
theorem dX8_compareSize_50 : decode cX8_compareSize 50 = .ok (.laload, 1) := dk_47 (by decide +kernel)
theorem dX8_compareSize_51 : decode cX8_compareSize 51 = .ok (.lcmp, 1) := dk_148 (by decide +kernel)
theorem dX8_compareSize_52 : decode cX8_compareSize 52 = .ok (.ifCond .eq 25, 3) := dk_153 (by decide +kernel)
theorem dX8_compareSize_55 : decode cX8_compareSize 55 = .ok (.aload_n 0, 1) := dk_42 (by decide +kernel)
theorem dX8_compareSize_56 : decode cX8_compareSize 56 = .ok (.getfield 9, 3) := dk_180 (by decide +kernel)
theorem dX8_compareSize_59 : decode cX8_compareSize 59 = .ok (.iload_n 2, 1) := dk_28 (by decide +kernel)
theorem dX8_compareSize_60 : decode cX8_compareSize 60 = .ok (.laload, 1) := dk_47 (by decide +kernel)
theorem dX8_compareSize_61 : decode cX8_compareSize 61 = .ok (.aload_n 1, 1) := dk_43 (by decide +kernel)
theorem dX8_compareSize_62 : decode cX8_compareSize 62 = .ok (.getfield 9, 3) := dk_180 (by decide +kernel)
theorem dX8_compareSize_65 : decode cX8_compareSize 65 = .ok (.iload_n 2, 1) := dk_28 (by decide +kernel)
theorem dX8_compareSize_66 : decode cX8_compareSize 66 = .ok (.laload, 1) := dk_47 (by decide +kernel)
theorem dX8_compareSize_67 : decode cX8_compareSize 67 = .ok (.lcmp, 1) := dk_148 (by decide +kernel)
theorem dX8_compareSize_68 : decode cX8_compareSize 68 = .ok (.ifCond .ge 7, 3) := dk_156 (by decide +kernel)
theorem dX8_compareSize_71 : decode cX8_compareSize 71 = .ok (.iconst (-1), 1) := dk_2 (by decide +kernel)
theorem dX8_compareSize_72 : decode cX8_compareSize 72 = .ok (.goto 4, 3) := dk_167 (by decide +kernel)
theorem dX8_compareSize_75 : decode cX8_compareSize 75 = .ok (.iconst 1, 1) := dk_4 (by decide +kernel)
theorem dX8_compareSize_76 : decode cX8_compareSize 76 = .ok (.ireturn, 1) := dk_172 (by decide +kernel)
theorem dX8_compareSize_77 : decode cX8_compareSize 77 = .ok (.iinc 2 (-1), 3) := dk_132 (by decide +kernel)
theorem dX8_compareSize_80 : decode cX8_compareSize 80 = .ok (.goto (-45), 3) := dk_167 (by decide +kernel)
theorem dX8_compareSize_83 : decode cX8_compareSize 83 = .ok (.iconst 0, 1) := dk_3 (by decide +kernel)
theorem dX8_compareSize_84 : decode cX8_compareSize 84 = .ok (.ireturn, 1) := dk_172 (by decide +kernel)
def wsMX8_compareSize : List Cond := .code yX8_compareSize cX8_compareSize 3 (some .int) :: ([.fieldLink RX8 17 "OptimaWorks$Whole" "length" "I", .fieldLink RX8 9 "OptimaWorks$Whole" "limb" "[J"] ++ wsX80)
theorem iwsMX8_compareSize_in8 : ∀ w ∈ wsX80, w ∈ wsMX8_compareSize := fun _ h => List.mem_cons_of_mem _ (List.mem_append_right _ h)
theorem gdwsMX8_compareSize : wsMX8_compareSize.all goodWord = true := gdC rfl (gdA (by decide +kernel : ([.fieldLink RX8 17 "OptimaWorks$Whole" "length" "I", .fieldLink RX8 9 "OptimaWorks$Whole" "limb" "[J"] : List Cond).all goodWord = true) gdwsX80)
set_option maxHeartbeats 4000000 in
set_option maxRecDepth 100000 in
/-- which is greater -/
theorem m_X8_compareSize (l : Launch) (dC : Nat → ClassId) (dI : Nat → Nat → Nat) (nW : Nat) (hw : Nat → Nat) (lw : Nat → Nat) (kw : ClassId) (wl : Nat → Int32) (wb : Nat → Int32) (wG : Nat → Nat → Int64) (tt : Nat) (ta : Nat) (b_wl : ∀ q : Nat, 0 ≤ (wl q).toInt ∧ (wl q).toInt ≤ 14) (b_wb : ∀ q : Nat, 0 ≤ (wb q).toInt ∧ (wb q).toInt ≤ 1) (htt : tt < nW) (hta : ta < nW) (sz : Nat) : Met l yX8_compareSize wsMX8_compareSize ({ frames := 0, cells := 0, slots := 0, locals := 0 }) (va_Pc [.ref (hw tt), .ref (hw ta)] (fun U => U.heap.size = sz ∧ va_P (dC, dI) vwCl (WW nW hw lw kw wl wb wG) U.heap ∧ va_K (dC, dI) vwCl (tW kw) U ∧ va_D (fun _ => True) (WW nW hw lw kw wl wb wG))) (va_Qi (fun (r : Int32) (u : Unit) => ((-1) ≤ r.toInt ∧ r.toInt ≤ 1)) (fun (u : Unit) t => va_P (dC, dI) vwCl (WW nW hw lw kw wl wb wG) t.heap ∧ va_D (va_A (WW nW hw lw kw wl wb wG) sz) (WW nW hw lw kw wl wb wG)) (va_A (WW nW hw lw kw wl wb wG) sz)) 0 0 (va_A (WW nW hw lw kw wl wb wG) sz) := by
  refine Met.ofW (cc := cX8_compareSize) (maxL := 3) (ret := (some .int)) (by decide) rfl ?_
  intro p e s m args below meth c s₁ B hml hv
  obtain ⟨rfl, hsz, hP, hK, hD0⟩ := hv
  have hx := B.exec
  have hb := B.bytes
  have hr := B.returns
  have hts := atoms_spec (ws := wsMX8_compareSize) B.pre
  have hown : s.vm.findClass RX8 = some m.cls := findClass_of_methodNamed B.named
  have hlocks := B.notSynchronized
  subst hsz
  have hD := hD0.self (sz := s.heap.size)
  generalize hAe : va_A (WW nW hw lw kw wl wb wG) s.heap.size = A at hD ⊢
  have hA : ∀ q : Nat, s.heap.size ≤ q → A q := fun q h => by rw [← hAe]; exact Or.inr h
  have hS : va_S A s.heap s.heap [] := va_S.rf
  have hl := lv_entry ([.ref (hw tt), .ref (hw ta)]) (n := 3) (Nat.le_of_ble_eq_true rfl)
  rw [lg_entry_eq]
  generalize (lg_sl ([.ref (hw tt), .ref (hw ta)]) ++ List.replicate (3 - (lg_sl ([.ref (hw tt), .ref (hw ta)])).length) Slot.unset).toArray = ls at hl ⊢
  have hl : lv_has ls 3 [(0, .ref (hw tt)), (1, .ref (hw ta))] := hl
  refine lv_aload_n hx hb dX8_compareSize_0 rfl (lv_at hl 0 rfl) ?_
  refine va_get (D := (dC, dI)) (ci := 8) (v := .int (wl tt)) (C := RX8) (T := TX8) (N := 3) hx hb hts iwsMX8_compareSize_in8 hown hK hP (tt) (WW_o (by omega)) rfl 1 (by decide) (hts (.fieldLink RX8 17 "OptimaWorks$Whole" "length" "I") (by decide +kernel)) (fun _ h9 => h9) rfl dX8_compareSize_1 ?_
  have br1 := b_wl tt
  refine lv_aload_n hx hb dX8_compareSize_4 rfl (lv_at hl 1 rfl) ?_
  refine va_get (D := (dC, dI)) (ci := 8) (v := .int (wl ta)) (C := RX8) (T := TX8) (N := 3) hx hb hts iwsMX8_compareSize_in8 hown hK hP (ta) (WW_o (by omega)) rfl 1 (by decide) (hts (.fieldLink RX8 17 "OptimaWorks$Whole" "length" "I") (by decide +kernel)) (fun _ h9 => h9) rfl dX8_compareSize_5 ?_
  have br5 := b_wl ta
  refine lv_icmp_eq (tgt := 28) hx hb dX8_compareSize_8 (by decide) (fun c_8 => ?_) (fun c_8 => ?_)
  · have t_8 : (wl tt).toInt = (wl ta).toInt := toI_eq c_8 rfl rfl
    refine lv_aload_n hx hb dX8_compareSize_28 rfl (lv_at hl 0 rfl) ?_
    refine va_get (D := (dC, dI)) (ci := 8) (v := .int (wl tt)) (C := RX8) (T := TX8) (N := 3) hx hb hts iwsMX8_compareSize_in8 hown hK hP (tt) (WW_o (by omega)) rfl 1 (by decide) (hts (.fieldLink RX8 17 "OptimaWorks$Whole" "length" "I") (by decide +kernel)) (fun _ h9 => h9) rfl dX8_compareSize_29 ?_
    have br29 := b_wl tt
    refine lv_iconst (v := 1) hx hb dX8_compareSize_32 (by decide) ?_
    refine lv_isub hx hb dX8_compareSize_33 ?_
    refine lv_topi (fun y1 hy1 => ?_)
    obtain rfl : (iI ((wl tt).toInt - 1)) = y1 := (hy1.trans (iI_sub2 (iI_of _) (by decide : (1 : Int32) = iI 1))).symm
    refine lv_istore_n hx hb dX8_compareSize_34 rfl hl (by decide) rfl (fun ls (hl : lv_has ls _ ([(2, .int (iI ((wl tt).toInt - 1))), (0, .ref (hw tt)), (1, .ref (hw ta))])) => ?_)
    have hl : lv_has _ _ ([(2, .int (iI ((wl tt).toInt - 1))), (0, .ref (hw tt)), (1, .ref (hw ta))]) := lv_sub hl [0, 1, 2] rfl
    refine (fun (loop : ∀ (n9 : Nat) (l2_x35 : Int32) (H : Heap) (locs : List Loc) (ls : Array Slot), ((-1) ≤ l2_x35.toInt ∧ l2_x35.toInt ≤ 13) → (l2_x35.toInt - (-1) < ((n9 : Nat) : Int)) → va_P (dC, dI) vwCl (WW nW hw lw kw wl wb wG) H → va_D A (WW nW hw lw kw wl wb wG) → va_S A s.heap H locs → lv_has ls 3 [(2, .int l2_x35), (0, .ref (hw tt)), (1, .ref (hw ta))] → W p l e _ s m _ below meth c H locs 0 0 _ (F0 m 35 ls [])) => loop (15) (iI ((wl tt).toInt - 1)) _ _ _ (iI_rng (by omega) (by omega) (by decide) (by decide)) ((by have e9 : ((iI ((wl tt).toInt - 1))).toInt = ((wl tt).toInt - 1) := (iI_t (by omega) (by omega)); omega)) hP hD hS hl) ?_
    intro n9
    induction n9 with
    | zero => intro l2_x35 H locs ls b_l2_x35 hf9; exact False.elim (by omega)
    | succ n9 ihx35 =>
      intro l2_x35 H locs ls b_l2_x35 hfx35 hP hD hS hl
      refine lv_iload_n hx hb dX8_compareSize_35 rfl (lv_at hl 0 rfl) ?_
      refine lv_if_lt (tgt := 83) hx hb dX8_compareSize_36 (by decide) (fun c_36 => ?_) (fun c_36 => ?_)
      · have t_36 : l2_x35.toInt < 0 := toI_lt c_36 rfl (by decide : (0 : Int32).toInt = 0)
        refine lv_iconst (v := 0) hx hb dX8_compareSize_83 (by decide) ?_
        refine W.widen (k := 0) (n := 0) (by decide +kernel) (by decide +kernel) ?_
        exact W.iret (v := 0) hx hb hr (fun t9_ ht hW => ⟨⟨(0 : Int32), (), rfl, (show (-1) ≤ (0 : Int32).toInt ∧ (0 : Int32).toInt ≤ 1 from by decide), by rw [ht]; exact hP, hD⟩, hS.F ht⟩) hS.2.2 dX8_compareSize_84
      · have t_36 : ¬ l2_x35.toInt < 0 := toI_nlt c_36 rfl (by decide : (0 : Int32).toInt = 0)
        refine lv_aload_n hx hb dX8_compareSize_39 rfl (lv_at hl 1 rfl) ?_
        refine va_get (D := (dC, dI)) (ci := 8) (v := .ref (lw tt)) (C := RX8) (T := TX8) (N := 3) hx hb hts iwsMX8_compareSize_in8 hown hK hP (tt) (WW_o (by omega)) rfl 0 (by decide) (hts (.fieldLink RX8 9 "OptimaWorks$Whole" "limb" "[J") (by decide +kernel)) (fun _ h9 => h9) rfl dX8_compareSize_40 ?_
        refine lv_iload_n hx hb dX8_compareSize_43 rfl (lv_at hl 0 rfl) ?_
        refine va_lald (cA := kw) (n := 14) (f := (wG tt)) hx hb hK hP (nW + tt) 0 (WW_a (by omega)) rfl (vp_in_iff.mpr ⟨(by omega), (Int.lt_of_le_of_lt (b_l2_x35.2) (by decide))⟩) dX8_compareSize_44 ?_
        refine lv_topl (fun v10 hv10 => ?_)
        clear hv10
        refine lv_aload_n hx hb dX8_compareSize_45 rfl (lv_at hl 2 rfl) ?_
        refine va_get (D := (dC, dI)) (ci := 8) (v := .ref (lw ta)) (C := RX8) (T := TX8) (N := 3) hx hb hts iwsMX8_compareSize_in8 hown hK hP (ta) (WW_o (by omega)) rfl 0 (by decide) (hts (.fieldLink RX8 9 "OptimaWorks$Whole" "limb" "[J") (by decide +kernel)) (fun _ h9 => h9) rfl dX8_compareSize_46 ?_
        refine lv_iload_n hx hb dX8_compareSize_49 rfl (lv_at hl 0 rfl) ?_
        refine va_lald (cA := kw) (n := 14) (f := (wG ta)) hx hb hK hP (nW + ta) 0 (WW_a (by omega)) rfl (vp_in_iff.mpr ⟨(by omega), (Int.lt_of_le_of_lt (b_l2_x35.2) (by decide))⟩) dX8_compareSize_50 ?_
        refine lv_topl (fun v11 hv11 => ?_)
        clear hv11
        refine W.lcmp hx hb dX8_compareSize_51 ?_
        refine lv_if_eq (tgt := 77) hx hb dX8_compareSize_52 (by decide) (fun c_52 => ?_) (fun c_52 => ?_)
        · have t_52 : v10.toInt = v11.toInt := toL_eq c_52 rfl rfl
          refine lv_iinc (v := (iI (l2_x35.toInt + (-1)))) hx hb dX8_compareSize_77 hl (k := 0) rfl (iI_add2 (iI_of _) (by decide : ((-1) : Int32) = iI (-1))) (by decide) rfl (fun ls (hl : lv_has ls _ ([(2, .int (iI (l2_x35.toInt + (-1)))), (0, .ref (hw tt)), (1, .ref (hw ta))])) => ?_)
          refine lv_goto (tgt := 35) hx hb dX8_compareSize_80 (by decide) ?_
          have hl : lv_has _ _ ([(2, .int (iI (l2_x35.toInt + (-1)))), (0, .ref (hw tt)), (1, .ref (hw ta))]) := lv_sub hl [0, 1, 2] rfl
          exact ihx35 (iI (l2_x35.toInt + (-1))) _ _ _ (iI_rng (by omega) (Int.le_trans (Int.add_le_add (b_l2_x35.2) (Int.le_refl _)) (by decide)) (by decide) (by decide)) (by have e9 : ((iI (l2_x35.toInt + (-1)))).toInt = (l2_x35.toInt + (-1)) := (iI_t (Int.le_trans (by decide) (Int.add_le_add (b_l2_x35.1) (Int.le_refl _))) (Int.le_trans (Int.add_le_add (b_l2_x35.2) (Int.le_refl _)) (by decide))); omega) hP hD hS hl
        · have t_52 : ¬ v10.toInt = v11.toInt := toL_neq c_52 rfl rfl
          refine lv_aload_n hx hb dX8_compareSize_55 rfl (lv_at hl 1 rfl) ?_
          refine va_get (D := (dC, dI)) (ci := 8) (v := .ref (lw tt)) (C := RX8) (T := TX8) (N := 3) hx hb hts iwsMX8_compareSize_in8 hown hK hP (tt) (WW_o (by omega)) rfl 0 (by decide) (hts (.fieldLink RX8 9 "OptimaWorks$Whole" "limb" "[J") (by decide +kernel)) (fun _ h9 => h9) rfl dX8_compareSize_56 ?_
          refine lv_iload_n hx hb dX8_compareSize_59 rfl (lv_at hl 0 rfl) ?_
          refine va_lald (cA := kw) (n := 14) (f := (wG tt)) hx hb hK hP (nW + tt) 0 (WW_a (by omega)) rfl (vp_in_iff.mpr ⟨(by omega), (Int.lt_of_le_of_lt (b_l2_x35.2) (by decide))⟩) dX8_compareSize_60 ?_
          refine lv_topl (fun v12 hv12 => ?_)
          clear hv12
          refine lv_aload_n hx hb dX8_compareSize_61 rfl (lv_at hl 2 rfl) ?_
          refine va_get (D := (dC, dI)) (ci := 8) (v := .ref (lw ta)) (C := RX8) (T := TX8) (N := 3) hx hb hts iwsMX8_compareSize_in8 hown hK hP (ta) (WW_o (by omega)) rfl 0 (by decide) (hts (.fieldLink RX8 9 "OptimaWorks$Whole" "limb" "[J") (by decide +kernel)) (fun _ h9 => h9) rfl dX8_compareSize_62 ?_
          refine lv_iload_n hx hb dX8_compareSize_65 rfl (lv_at hl 0 rfl) ?_
          refine va_lald (cA := kw) (n := 14) (f := (wG ta)) hx hb hK hP (nW + ta) 0 (WW_a (by omega)) rfl (vp_in_iff.mpr ⟨(by omega), (Int.lt_of_le_of_lt (b_l2_x35.2) (by decide))⟩) dX8_compareSize_66 ?_
          refine lv_topl (fun v13 hv13 => ?_)
          clear hv13
          refine W.lcmp hx hb dX8_compareSize_67 ?_
          refine W.cut (pc := 76) (fun H locs ls stk => ∃ (k0_j7 : Int32), ((-1) ≤ k0_j7.toInt ∧ k0_j7.toInt ≤ 1) ∧  stk = [.int k0_j7] ∧ va_P (dC, dI) vwCl (WW nW hw lw kw wl wb wG) H ∧ va_D A (WW nW hw lw kw wl wb wG) ∧ va_S A s.heap H locs ∧ lv_has ls 3 [(2, .int l2_x35), (0, .ref (hw tt)), (1, .ref (hw ta))]) (fun join7 => ?_) ?_
          · refine lv_if_ge (tgt := 75) hx hb dX8_compareSize_68 (by decide) (fun c_68 => ?_) (fun c_68 => ?_)
            · have t_68 : v12.toInt ≥ v13.toInt := toL_ge c_68 rfl rfl
              refine lv_iconst (v := 1) hx hb dX8_compareSize_75 (by decide) ?_
              have hl : lv_has _ _ ([(2, .int l2_x35), (0, .ref (hw tt)), (1, .ref (hw ta))]) := lv_sub hl [0, 1, 2] rfl
              exact join7 _ _ _ _ ⟨1, (show (-1) ≤ (1 : Int32).toInt ∧ (1 : Int32).toInt ≤ 1 from by decide), rfl, hP, hD, hS, hl⟩
            · have t_68 : ¬ v12.toInt ≥ v13.toInt := toL_nge c_68 rfl rfl
              refine lv_iconst (v := (-1)) hx hb dX8_compareSize_71 (by decide) ?_
              refine lv_goto (tgt := 76) hx hb dX8_compareSize_72 (by decide) ?_
              have hl : lv_has _ _ ([(2, .int l2_x35), (0, .ref (hw tt)), (1, .ref (hw ta))]) := lv_sub hl [0, 1, 2] rfl
              exact join7 _ _ _ _ ⟨(-1), (show (-1) ≤ ((-1) : Int32).toInt ∧ ((-1) : Int32).toInt ≤ 1 from by decide), rfl, hP, hD, hS, hl⟩
          · rintro H locs ls stk ⟨k0_j7, b_k0_j7, rfl, hP, hD, hS, hl⟩
            refine W.widen (k := 0) (n := 0) (by decide +kernel) (by decide +kernel) ?_
            exact W.iret (v := k0_j7) hx hb hr (fun t9_ ht hW => ⟨⟨k0_j7, (), rfl, (b_k0_j7), by rw [ht]; exact hP, hD⟩, hS.F ht⟩) hS.2.2 dX8_compareSize_76
  · have t_8 : ¬ (wl tt).toInt = (wl ta).toInt := toI_neq c_8 rfl rfl
    refine lv_aload_n hx hb dX8_compareSize_11 rfl (lv_at hl 0 rfl) ?_
    refine va_get (D := (dC, dI)) (ci := 8) (v := .int (wl tt)) (C := RX8) (T := TX8) (N := 3) hx hb hts iwsMX8_compareSize_in8 hown hK hP (tt) (WW_o (by omega)) rfl 1 (by decide) (hts (.fieldLink RX8 17 "OptimaWorks$Whole" "length" "I") (by decide +kernel)) (fun _ h9 => h9) rfl dX8_compareSize_12 ?_
    have br12 := b_wl tt
    refine lv_aload_n hx hb dX8_compareSize_15 rfl (lv_at hl 1 rfl) ?_
    refine va_get (D := (dC, dI)) (ci := 8) (v := .int (wl ta)) (C := RX8) (T := TX8) (N := 3) hx hb hts iwsMX8_compareSize_in8 hown hK hP (ta) (WW_o (by omega)) rfl 1 (by decide) (hts (.fieldLink RX8 17 "OptimaWorks$Whole" "length" "I") (by decide +kernel)) (fun _ h9 => h9) rfl dX8_compareSize_16 ?_
    have br16 := b_wl ta
    refine W.cut (pc := 27) (fun H locs ls stk => ∃ (k0_j8 : Int32), ((-1) ≤ k0_j8.toInt ∧ k0_j8.toInt ≤ 1) ∧  stk = [.int k0_j8] ∧ va_P (dC, dI) vwCl (WW nW hw lw kw wl wb wG) H ∧ va_D A (WW nW hw lw kw wl wb wG) ∧ va_S A s.heap H locs ∧ lv_has ls 3 [(0, .ref (hw tt)), (1, .ref (hw ta))]) (fun join8 => ?_) ?_
    · refine lv_icmp_ge (tgt := 26) hx hb dX8_compareSize_19 (by decide) (fun c_19 => ?_) (fun c_19 => ?_)
      · have t_19 : (wl tt).toInt ≥ (wl ta).toInt := toI_ge c_19 rfl rfl
        refine lv_iconst (v := 1) hx hb dX8_compareSize_26 (by decide) ?_
        have hl : lv_has _ _ ([(0, .ref (hw tt)), (1, .ref (hw ta))]) := lv_sub hl [0, 1] rfl
        exact join8 _ _ _ _ ⟨1, (show (-1) ≤ (1 : Int32).toInt ∧ (1 : Int32).toInt ≤ 1 from by decide), rfl, hP, hD, hS, hl⟩
      · have t_19 : ¬ (wl tt).toInt ≥ (wl ta).toInt := toI_nge c_19 rfl rfl
        refine lv_iconst (v := (-1)) hx hb dX8_compareSize_22 (by decide) ?_
        refine lv_goto (tgt := 27) hx hb dX8_compareSize_23 (by decide) ?_
        have hl : lv_has _ _ ([(0, .ref (hw tt)), (1, .ref (hw ta))]) := lv_sub hl [0, 1] rfl
        exact join8 _ _ _ _ ⟨(-1), (show (-1) ≤ ((-1) : Int32).toInt ∧ ((-1) : Int32).toInt ≤ 1 from by decide), rfl, hP, hD, hS, hl⟩
    · rintro H locs ls stk ⟨k0_j8, b_k0_j8, rfl, hP, hD, hS, hl⟩
      refine W.widen (k := 0) (n := 0) (by decide +kernel) (by decide +kernel) ?_
      exact W.iret (v := k0_j8) hx hb hr (fun t9_ ht hW => ⟨⟨k0_j8, (), rfl, (b_k0_j8), by rw [ht]; exact hP, hD⟩, hS.F ht⟩) hS.2.2 dX8_compareSize_27
theorem dX8_addSize_0 : decode cX8_addSize 0 = .ok (.aload_n 0, 1) := dk_42 (by decide +kernel)
theorem dX8_addSize_1 : decode cX8_addSize 1 = .ok (.getfield 17, 3) := dk_180 (by decide +kernel)
theorem dX8_addSize_4 : decode cX8_addSize 4 = .ok (.aload_n 1, 1) := dk_43 (by decide +kernel)
theorem dX8_addSize_5 : decode cX8_addSize 5 = .ok (.getfield 17, 3) := dk_180 (by decide +kernel)
theorem dX8_addSize_8 : decode cX8_addSize 8 = .ok (.invokestatic 44, 3) := dk_184 (by decide +kernel)
theorem dX8_addSize_11 : decode cX8_addSize 11 = .ok (.istore_n 2, 1) := dk_61 (by decide +kernel)
theorem dX8_addSize_12 : decode cX8_addSize 12 = .ok (.lconst 0, 1) := dk_9 (by decide +kernel)
theorem dX8_addSize_13 : decode cX8_addSize 13 = .ok (.lstore_n 3, 1) := dk_66 (by decide +kernel)
theorem dX8_addSize_14 : decode cX8_addSize 14 = .ok (.iconst 0, 1) := dk_3 (by decide +kernel)
theorem dX8_addSize_15 : decode cX8_addSize 15 = .ok (.istore 5, 2) := dk_54 (by decide +kernel)
theorem dX8_addSize_17 : decode cX8_addSize 17 = .ok (.iload 5, 2) := dk_21 (by decide +kernel)
theorem dX8_addSize_19 : decode cX8_addSize 19 = .ok (.iload_n 2, 1) := dk_28 (by decide +kernel)
theorem dX8_addSize_20 : decode cX8_addSize 20 = .ok (.if_icmp .ge 73, 3) := dk_162 (by decide +kernel)
theorem dX8_addSize_23 : decode cX8_addSize 23 = .ok (.iload 5, 2) := dk_21 (by decide +kernel)
theorem dX8_addSize_25 : decode cX8_addSize 25 = .ok (.aload_n 0, 1) := dk_42 (by decide +kernel)
theorem dX8_addSize_26 : decode cX8_addSize 26 = .ok (.getfield 17, 3) := dk_180 (by decide +kernel)
theorem dX8_addSize_29 : decode cX8_addSize 29 = .ok (.if_icmp .ge 13, 3) := dk_162 (by decide +kernel)
theorem dX8_addSize_32 : decode cX8_addSize 32 = .ok (.aload_n 0, 1) := dk_42 (by decide +kernel)
theorem dX8_addSize_33 : decode cX8_addSize 33 = .ok (.getfield 9, 3) := dk_180 (by decide +kernel)
theorem dX8_addSize_36 : decode cX8_addSize 36 = .ok (.iload 5, 2) := dk_21 (by decide +kernel)
theorem dX8_addSize_38 : decode cX8_addSize 38 = .ok (.laload, 1) := dk_47 (by decide +kernel)
theorem dX8_addSize_39 : decode cX8_addSize 39 = .ok (.goto 4, 3) := dk_167 (by decide +kernel)
theorem dX8_addSize_42 : decode cX8_addSize 42 = .ok (.lconst 0, 1) := dk_9 (by decide +kernel)
theorem dX8_addSize_43 : decode cX8_addSize 43 = .ok (.iload 5, 2) := dk_21 (by decide +kernel)
theorem dX8_addSize_45 : decode cX8_addSize 45 = .ok (.aload_n 1, 1) := dk_43 (by decide +kernel)
theorem dX8_addSize_46 : decode cX8_addSize 46 = .ok (.getfield 17, 3) := dk_180 (by decide +kernel)
theorem dX8_addSize_49 : decode cX8_addSize 49 = .ok (.if_icmp .ge 13, 3) := dk_162 (by decide +kernel)
theorem dX8_addSize_52 : decode cX8_addSize 52 = .ok (.aload_n 1, 1) := dk_43 (by decide +kernel)
theorem dX8_addSize_53 : decode cX8_addSize 53 = .ok (.getfield 9, 3) := dk_180 (by decide +kernel)
theorem dX8_addSize_56 : decode cX8_addSize 56 = .ok (.iload 5, 2) := dk_21 (by decide +kernel)
theorem dX8_addSize_58 : decode cX8_addSize 58 = .ok (.laload, 1) := dk_47 (by decide +kernel)
theorem dX8_addSize_59 : decode cX8_addSize 59 = .ok (.goto 4, 3) := dk_167 (by decide +kernel)
theorem dX8_addSize_62 : decode cX8_addSize 62 = .ok (.lconst 0, 1) := dk_9 (by decide +kernel)
theorem dX8_addSize_63 : decode cX8_addSize 63 = .ok (.ladd, 1) := dk_97 (by decide +kernel)
theorem dX8_addSize_64 : decode cX8_addSize 64 = .ok (.lload_n 3, 1) := dk_33 (by decide +kernel)
theorem dX8_addSize_65 : decode cX8_addSize 65 = .ok (.ladd, 1) := dk_97 (by decide +kernel)
theorem dX8_addSize_66 : decode cX8_addSize 66 = .ok (.lstore 6, 2) := dk_55 (by decide +kernel)
theorem dX8_addSize_68 : decode cX8_addSize 68 = .ok (.aload_n 0, 1) := dk_42 (by decide +kernel)
theorem dX8_addSize_69 : decode cX8_addSize 69 = .ok (.getfield 9, 3) := dk_180 (by decide +kernel)
theorem dX8_addSize_72 : decode cX8_addSize 72 = .ok (.iload 5, 2) := dk_21 (by decide +kernel)
theorem dX8_addSize_74 : decode cX8_addSize 74 = .ok (.lload 6, 2) := dk_22 (by decide +kernel)
theorem dX8_addSize_76 : decode cX8_addSize 76 = .ok (.ldc2_w 21, 3) := dk_20 (by decide +kernel)
theorem dX8_addSize_79 : decode cX8_addSize 79 = .ok (.land, 1) := dk_127 (by decide +kernel)
theorem dX8_addSize_80 : decode cX8_addSize 80 = .ok (.lastore, 1) := dk_80 (by decide +kernel)
theorem dX8_addSize_81 : decode cX8_addSize 81 = .ok (.lload 6, 2) := dk_22 (by decide +kernel)
theorem dX8_addSize_83 : decode cX8_addSize 83 = .ok (.bipush 30, 2) := dk_16 (by decide +kernel)
theorem dX8_addSize_85 : decode cX8_addSize 85 = .ok (.lushr, 1) := dk_125 (by decide +kernel)
theorem dX8_addSize_86 : decode cX8_addSize 86 = .ok (.lstore_n 3, 1) := dk_66 (by decide +kernel)
theorem dX8_addSize_87 : decode cX8_addSize 87 = .ok (.iinc 5 1, 3) := dk_132 (by decide +kernel)
theorem dX8_addSize_90 : decode cX8_addSize 90 = .ok (.goto (-73), 3) := dk_167 (by decide +kernel)
theorem dX8_addSize_93 : decode cX8_addSize 93 = .ok (.aload_n 0, 1) := dk_42 (by decide +kernel)
theorem dX8_addSize_94 : decode cX8_addSize 94 = .ok (.iload_n 2, 1) := dk_28 (by decide +kernel)
theorem dX8_addSize_95 : decode cX8_addSize 95 = .ok (.putfield 17, 3) := dk_181 (by decide +kernel)
theorem dX8_addSize_98 : decode cX8_addSize 98 = .ok (.lload_n 3, 1) := dk_33 (by decide +kernel)
theorem dX8_addSize_99 : decode cX8_addSize 99 = .ok (.lconst 0, 1) := dk_9 (by decide +kernel)
theorem dX8_addSize_100 : decode cX8_addSize 100 = .ok (.lcmp, 1) := dk_148 (by decide +kernel)
theorem dX8_addSize_101 : decode cX8_addSize 101 = .ok (.ifCond .eq 26, 3) := dk_153 (by decide +kernel)
theorem dX8_addSize_104 : decode cX8_addSize 104 = .ok (.iload_n 2, 1) := dk_28 (by decide +kernel)
theorem dX8_addSize_105 : decode cX8_addSize 105 = .ok (.bipush 14, 2) := dk_16 (by decide +kernel)
theorem dX8_addSize_107 : decode cX8_addSize 107 = .ok (.if_icmp .ge 20, 3) := dk_162 (by decide +kernel)
theorem dX8_addSize_110 : decode cX8_addSize 110 = .ok (.aload_n 0, 1) := dk_42 (by decide +kernel)
theorem dX8_addSize_111 : decode cX8_addSize 111 = .ok (.getfield 9, 3) := dk_180 (by decide +kernel)
theorem dX8_addSize_114 : decode cX8_addSize 114 = .ok (.iload_n 2, 1) := dk_28 (by decide +kernel)
theorem dX8_addSize_115 : decode cX8_addSize 115 = .ok (.lload_n 3, 1) := dk_33 (by decide +kernel)
theorem dX8_addSize_116 : decode cX8_addSize 116 = .ok (.lastore, 1) := dk_80 (by decide +kernel)
theorem dX8_addSize_117 : decode cX8_addSize 117 = .ok (.aload_n 0, 1) := dk_42 (by decide +kernel)
theorem dX8_addSize_118 : decode cX8_addSize 118 = .ok (.dup, 1) := dk_89 (by decide +kernel)
theorem dX8_addSize_119 : decode cX8_addSize 119 = .ok (.getfield 17, 3) := dk_180 (by decide +kernel)
theorem dX8_addSize_122 : decode cX8_addSize 122 = .ok (.iconst 1, 1) := dk_4 (by decide +kernel)
theorem dX8_addSize_123 : decode cX8_addSize 123 = .ok (.iadd, 1) := dk_96 (by decide +kernel)
theorem dX8_addSize_124 : decode cX8_addSize 124 = .ok (.putfield 17, 3) := dk_181 (by decide +kernel)
theorem dX8_addSize_127 : decode cX8_addSize 127 = .ok (.return_, 1) := dk_177 (by decide +kernel)
def wsMX8_addSize : List Cond := .code yX8_addSize cX8_addSize 8 none :: ([.fieldLink RX8 17 "OptimaWorks$Whole" "length" "I", .methodLink RX8 44 Lib.Math.max.name, .static Lib.Math.max.name, .initialized "java/lang/Math", .code Lib.Math.max.name Lib.Math.max.code 2 (some .int), .fieldLink RX8 9 "OptimaWorks$Whole" "limb" "[J", .constantLong RX8 21 1073741823] ++ wsX80)
theorem iwsMX8_addSize_in8 : ∀ w ∈ wsX80, w ∈ wsMX8_addSize := fun _ h => List.mem_cons_of_mem _ (List.mem_append_right _ h)
theorem gdwsMX8_addSize : wsMX8_addSize.all goodWord = true := gdC rfl (gdA (by decide +kernel : ([.fieldLink RX8 17 "OptimaWorks$Whole" "length" "I", .methodLink RX8 44 Lib.Math.max.name, .static Lib.Math.max.name, .initialized "java/lang/Math", .code Lib.Math.max.name Lib.Math.max.code 2 (some .int), .fieldLink RX8 9 "OptimaWorks$Whole" "limb" "[J", .constantLong RX8 21 1073741823] : List Cond).all goodWord = true) gdwsX80)
set_option maxHeartbeats 4000000 in
set_option maxRecDepth 100000 in
/-- sizes added -/
theorem m_X8_addSize (l : Launch) (dC : Nat → ClassId) (dI : Nat → Nat → Nat) (nW : Nat) (hw : Nat → Nat) (lw : Nat → Nat) (kw : ClassId) (wl : Nat → Int32) (wb : Nat → Int32) (wG : Nat → Nat → Int64) (tt : Nat) (ta : Nat) (b_wl : ∀ q : Nat, 0 ≤ (wl q).toInt ∧ (wl q).toInt ≤ 14) (b_wb : ∀ q : Nat, 0 ≤ (wb q).toInt ∧ (wb q).toInt ≤ 1) (htt : tt < nW) (hta : ta < nW) (sz : Nat) : Met l yX8_addSize wsMX8_addSize ({ frames := 1, cells := 0, slots := 0, locals := 13 }) (va_Pc [.ref (hw tt), .ref (hw ta)] (fun U => U.heap.size = sz ∧ va_P (dC, dI) vwCl (WW nW hw lw kw wl wb wG) U.heap ∧ va_K (dC, dI) vwCl (tW kw) U ∧ va_D (fun _ => True) (WW nW hw lw kw wl wb wG))) (va_Qv (fun (u : (Nat → Int32) × (Nat → Nat → Int64)) => (∀ q : Nat, 0 ≤ ((u.1) q).toInt ∧ ((u.1) q).toInt ≤ 14)) (fun (u : (Nat → Int32) × (Nat → Nat → Int64)) t => va_P (dC, dI) vwCl (WW nW hw lw kw (u.1) wb (u.2)) t.heap ∧ va_D (va_A (WW nW hw lw kw wl wb wG) sz) (WW nW hw lw kw (u.1) wb (u.2))) (va_A (WW nW hw lw kw wl wb wG) sz)) 0 0 (va_A (WW nW hw lw kw wl wb wG) sz) := by
  refine Met.ofW (cc := cX8_addSize) (maxL := 8) (ret := none) (by decide) rfl ?_
  intro p e s m args below meth c s₁ B hml hv
  obtain ⟨rfl, hsz, hP, hK, hD0⟩ := hv
  have hx := B.exec
  have hb := B.bytes
  have hr := B.returns
  have hts := atoms_spec (ws := wsMX8_addSize) B.pre
  have hown : s.vm.findClass RX8 = some m.cls := findClass_of_methodNamed B.named
  have hlocks := B.notSynchronized
  subst hsz
  have hD := hD0.self (sz := s.heap.size)
  generalize hAe : va_A (WW nW hw lw kw wl wb wG) s.heap.size = A at hD ⊢
  have hA : ∀ q : Nat, s.heap.size ≤ q → A q := fun q h => by rw [← hAe]; exact Or.inr h
  have hS : va_S A s.heap s.heap [] := va_S.rf
  have hl := lv_entry ([.ref (hw tt), .ref (hw ta)]) (n := 8) (Nat.le_of_ble_eq_true rfl)
  rw [lg_entry_eq]
  generalize (lg_sl ([.ref (hw tt), .ref (hw ta)]) ++ List.replicate (8 - (lg_sl ([.ref (hw tt), .ref (hw ta)])).length) Slot.unset).toArray = ls at hl ⊢
  have hl : lv_has ls 8 [(0, .ref (hw tt)), (1, .ref (hw ta))] := hl
  refine lv_aload_n hx hb dX8_addSize_0 rfl (lv_at hl 0 rfl) ?_
  refine va_get (D := (dC, dI)) (ci := 8) (v := .int (wl tt)) (C := RX8) (T := TX8) (N := 3) hx hb hts iwsMX8_addSize_in8 hown hK hP (tt) (WW_o (by omega)) rfl 1 (by decide) (hts (.fieldLink RX8 17 "OptimaWorks$Whole" "length" "I") (by decide +kernel)) (fun _ h9 => h9) rfl dX8_addSize_1 ?_
  have br1 := b_wl tt
  refine lv_aload_n hx hb dX8_addSize_4 rfl (lv_at hl 1 rfl) ?_
  refine va_get (D := (dC, dI)) (ci := 8) (v := .int (wl ta)) (C := RX8) (T := TX8) (N := 3) hx hb hts iwsMX8_addSize_in8 hown hK hP (ta) (WW_o (by omega)) rfl 1 (by decide) (hts (.fieldLink RX8 17 "OptimaWorks$Whole" "length" "I") (by decide +kernel)) (fun _ h9 => h9) rfl dX8_addSize_5 ?_
  have br5 := b_wl ta
  refine va_mmax hx hb (by rw [hml]; exact hl.1.symm) hown (hts (.methodLink RX8 44 Lib.Math.max.name) (by decide +kernel)) (hts (.static Lib.Math.max.name) (by decide +kernel)) (hts (.initialized "java/lang/Math") (by decide +kernel)) (hts (.code Lib.Math.max.name Lib.Math.max.code 2 (some .int)) (by decide +kernel)) (by decide +kernel) (Nat.le_of_ble_eq_true rfl) (by decide +kernel) (by decide +kernel) dX8_addSize_8 ?_
  refine lv_topi (fun v1 hv1 => ?_)
  have b_v1 : ((wl tt).toInt ≤ v1.toInt ∧ (wl ta).toInt ≤ v1.toInt) ∧ (v1.toInt = (wl tt).toInt ∨ v1.toInt = (wl ta).toInt) := by rw [hv1]; exact max_t rfl rfl
  clear hv1
  refine lv_istore_n hx hb dX8_addSize_11 rfl hl (by decide) rfl (fun ls (hl : lv_has ls _ ([(2, .int v1), (0, .ref (hw tt)), (1, .ref (hw ta))])) => ?_)
  refine lv_lconst (v := 0) hx hb dX8_addSize_12 (by decide) ?_
  refine lv_lstore_n hx hb dX8_addSize_13 rfl hl (by decide) rfl (fun ls (hl : lv_has ls _ ([(3, .long 0), (2, .int v1), (0, .ref (hw tt)), (1, .ref (hw ta))])) => ?_)
  refine lv_iconst (v := 0) hx hb dX8_addSize_14 (by decide) ?_
  refine lv_istore hx hb dX8_addSize_15 hl (by decide) rfl (fun ls (hl : lv_has ls _ ([(5, .int 0), (3, .long 0), (2, .int v1), (0, .ref (hw tt)), (1, .ref (hw ta))])) => ?_)
  have hl : lv_has _ _ ([(5, .int 0), (3, .long 0), (2, .int v1), (0, .ref (hw tt)), (1, .ref (hw ta))]) := lv_sub hl [0, 1, 2, 3, 4] rfl
  refine (fun (loop : ∀ (n9 : Nat) (wG_x17 : Nat → Nat → Int64) (l5_x17 : Int32) (l3_x17 : Int64) (H : Heap) (locs : List Loc) (ls : Array Slot), (0 ≤ l5_x17.toInt ∧ l5_x17.toInt ≤ 14) → (14 - l5_x17.toInt < ((n9 : Nat) : Int)) → va_P (dC, dI) vwCl (WW nW hw lw kw wl wb wG_x17) H → va_D A (WW nW hw lw kw wl wb wG_x17) → va_S A s.heap H locs → lv_has ls 8 [(5, .int l5_x17), (3, .long l3_x17), (2, .int v1), (0, .ref (hw tt)), (1, .ref (hw ta))] → W p l e _ s m _ below meth c H locs 0 0 _ (F0 m 17 ls [])) => loop (15) wG 0 0 _ _ _ (show 0 ≤ (0 : Int32).toInt ∧ (0 : Int32).toInt ≤ 14 from by decide) ((by have e9 : (0 : Int32).toInt = 0 := (by decide : (0 : Int32).toInt = 0); omega)) hP hD hS hl) ?_
  intro n9
  induction n9 with
  | zero => intro wG_x17 l5_x17 l3_x17 H locs ls b_l5_x17 hf9; exact False.elim (by omega)
  | succ n9 ihx17 =>
    intro wG_x17 l5_x17 l3_x17 H locs ls b_l5_x17 hfx17 hP hD hS hl
    refine lv_iload hx hb dX8_addSize_17 (lv_at hl 0 rfl) ?_
    refine lv_iload_n hx hb dX8_addSize_19 rfl (lv_at hl 2 rfl) ?_
    refine lv_icmp_ge (tgt := 93) hx hb dX8_addSize_20 (by decide) (fun c_20 => ?_) (fun c_20 => ?_)
    · have t_20 : l5_x17.toInt ≥ v1.toInt := toI_ge c_20 rfl rfl
      refine lv_aload_n hx hb dX8_addSize_93 rfl (lv_at hl 3 rfl) ?_
      refine lv_iload_n hx hb dX8_addSize_94 rfl (lv_at hl 2 rfl) ?_
      refine va_put (D := (dC, dI)) (ci := 8) (v := .int v1) (ty := .int) (C := RX8) (T := TX8) (N := 3) hx hb hts iwsMX8_addSize_in8 tyX8 tyX8_ok nmX8 hown hK hP hD hS (tt) (WW_o (by omega)) rfl 1 (by decide) (hts (.fieldLink RX8 17 "OptimaWorks$Whole" "length" "I") (by decide +kernel)) (fun _ h9 => h9) rfl (by decide +kernel) rfl rfl (Nat.le_of_ble_eq_true rfl) dX8_addSize_95 (fun H locs hP hD hS => ?_)
      obtain ⟨u56, hu56⟩ : ∃ f9, f9 = fT wl tt v1 := ⟨_, rfl⟩
      have hP : va_P (dC, dI) vwCl (WW nW hw lw kw u56 wb wG_x17) H := by rw [hu56]; exact Eq.mp (congrArg (fun z9 => va_P (dC, dI) vwCl z9 H) (WW_sl (by omega) v1)) hP
      have hD : va_D A (WW nW hw lw kw u56 wb wG_x17) := by rw [hu56]; exact Eq.mp (congrArg (fun z9 => va_D A z9) (WW_sl (by omega) v1)) hD
      have b_u56 : ∀ q : Nat, 0 ≤ (u56 q).toInt ∧ (u56 q).toInt ≤ 14 := by rw [hu56]; exact fT_r b_wl (by first | exact b_v1 | assumption | exact ⟨by omega, by omega⟩)
      have q_u56 : (u56 tt).toInt = v1.toInt := by rw [hu56, fT_eq]
      clear hu56
      refine lv_lload_n hx hb dX8_addSize_98 rfl (lv_at hl 1 rfl) ?_
      refine lv_lconst (v := 0) hx hb dX8_addSize_99 (by decide) ?_
      refine W.lcmp hx hb dX8_addSize_100 ?_
      refine W.cut (pc := 127) (fun H locs ls stk => ∃ (wl_j26 : Nat → Int32) (wG_j26 : Nat → Nat → Int64), (∀ q : Nat, 0 ≤ (wl_j26 q).toInt ∧ (wl_j26 q).toInt ≤ 14) ∧  stk = [] ∧ va_P (dC, dI) vwCl (WW nW hw lw kw wl_j26 wb wG_j26) H ∧ va_D A (WW nW hw lw kw wl_j26 wb wG_j26) ∧ va_S A s.heap H locs ∧ lv_has ls 8 [(5, .int l5_x17), (3, .long l3_x17), (2, .int v1), (0, .ref (hw tt)), (1, .ref (hw ta))]) (fun join26 => ?_) ?_
      · refine lv_if_eq (tgt := 127) hx hb dX8_addSize_101 (by decide) (fun c_101 => ?_) (fun c_101 => ?_)
        · have t_101 : l3_x17.toInt = 0 := toL_eq c_101 rfl (by decide : (0 : Int64).toInt = 0)
          have hl : lv_has _ _ ([(5, .int l5_x17), (3, .long l3_x17), (2, .int v1), (0, .ref (hw tt)), (1, .ref (hw ta))]) := lv_sub hl [0, 1, 2, 3, 4] rfl
          exact join26 _ _ _ _ ⟨u56, wG_x17, b_u56, rfl, hP, hD, hS, hl⟩
        · have t_101 : ¬ l3_x17.toInt = 0 := toL_neq c_101 rfl (by decide : (0 : Int64).toInt = 0)
          refine lv_iload_n hx hb dX8_addSize_104 rfl (lv_at hl 2 rfl) ?_
          refine lv_bipush (v := 14) hx hb dX8_addSize_105 (by decide) ?_
          refine lv_icmp_ge (tgt := 127) hx hb dX8_addSize_107 (by decide) (fun c_107 => ?_) (fun c_107 => ?_)
          · have t_107 : v1.toInt ≥ 14 := toI_ge c_107 rfl (by decide : (14 : Int32).toInt = 14)
            have hl : lv_has _ _ ([(5, .int l5_x17), (3, .long l3_x17), (2, .int v1), (0, .ref (hw tt)), (1, .ref (hw ta))]) := lv_sub hl [0, 1, 2, 3, 4] rfl
            exact join26 _ _ _ _ ⟨u56, wG_x17, b_u56, rfl, hP, hD, hS, hl⟩
          · have t_107 : ¬ v1.toInt ≥ 14 := toI_nge c_107 rfl (by decide : (14 : Int32).toInt = 14)
            refine lv_aload_n hx hb dX8_addSize_110 rfl (lv_at hl 3 rfl) ?_
            refine va_get (D := (dC, dI)) (ci := 8) (v := .ref (lw tt)) (C := RX8) (T := TX8) (N := 3) hx hb hts iwsMX8_addSize_in8 hown hK hP (tt) (WW_o (by omega)) rfl 0 (by decide) (hts (.fieldLink RX8 9 "OptimaWorks$Whole" "limb" "[J") (by decide +kernel)) (fun _ h9 => h9) rfl dX8_addSize_111 ?_
            refine lv_iload_n hx hb dX8_addSize_114 rfl (lv_at hl 2 rfl) ?_
            refine lv_lload_n hx hb dX8_addSize_115 rfl (lv_at hl 1 rfl) ?_
            refine va_last (cA := kw) (n := 14) (f := (wG_x17 tt)) hx hb hK hP hD hS (nW + tt) 0 (WW_a (by omega)) rfl (vp_in_iff.mpr ⟨(by omega), (Int.lt_of_lt_of_le (Int.not_le.mp t_107) (by decide))⟩) dX8_addSize_116 (fun H locs hP hD hS => ?_)
            obtain ⟨u60, hu60⟩ : ∃ f9, f9 = fT wG_x17 tt (vp_updL (wG_x17 tt) (v1).toNatClampNeg l3_x17) := ⟨_, rfl⟩
            have hP : va_P (dC, dI) vwCl (WW nW hw lw kw u56 wb u60) H := by rw [hu60]; exact Eq.mp (congrArg (fun z9 => va_P (dC, dI) vwCl z9 H) (WW_sg (by omega) (vp_updL (wG_x17 tt) (v1).toNatClampNeg l3_x17))) hP
            have hD : va_D A (WW nW hw lw kw u56 wb u60) := by rw [hu60]; exact Eq.mp (congrArg (fun z9 => va_D A z9) (WW_sg (by omega) (vp_updL (wG_x17 tt) (v1).toNatClampNeg l3_x17))) hD
            clear hu60
            refine lv_aload_n hx hb dX8_addSize_117 rfl (lv_at hl 3 rfl) ?_
            refine lv_dup hx hb dX8_addSize_118 rfl ?_
            refine va_get (D := (dC, dI)) (ci := 8) (v := .int (u56 tt)) (C := RX8) (T := TX8) (N := 3) hx hb hts iwsMX8_addSize_in8 hown hK hP (tt) (WW_o (by omega)) rfl 1 (by decide) (hts (.fieldLink RX8 17 "OptimaWorks$Whole" "length" "I") (by decide +kernel)) (fun _ h9 => h9) rfl dX8_addSize_119 ?_
            have br119 := b_u56 tt
            refine lv_iconst (v := 1) hx hb dX8_addSize_122 (by decide) ?_
            refine lv_iadd hx hb dX8_addSize_123 ?_
            refine lv_topi (fun y61 hy61 => ?_)
            obtain rfl : (iI ((u56 tt).toInt + 1)) = y61 := (hy61.trans (iI_add2 (iI_of _) (by decide : (1 : Int32) = iI 1))).symm
            refine va_put (D := (dC, dI)) (ci := 8) (v := .int (iI ((u56 tt).toInt + 1))) (ty := .int) (C := RX8) (T := TX8) (N := 3) hx hb hts iwsMX8_addSize_in8 tyX8 tyX8_ok nmX8 hown hK hP hD hS (tt) (WW_o (by omega)) rfl 1 (by decide) (hts (.fieldLink RX8 17 "OptimaWorks$Whole" "length" "I") (by decide +kernel)) (fun _ h9 => h9) rfl (by decide +kernel) rfl rfl (Nat.le_of_ble_eq_true rfl) dX8_addSize_124 (fun H locs hP hD hS => ?_)
            obtain ⟨u62, hu62⟩ : ∃ f9, f9 = fT u56 tt (iI ((u56 tt).toInt + 1)) := ⟨_, rfl⟩
            have hP : va_P (dC, dI) vwCl (WW nW hw lw kw u62 wb u60) H := by rw [hu62]; exact Eq.mp (congrArg (fun z9 => va_P (dC, dI) vwCl z9 H) (WW_sl (by omega) (iI ((u56 tt).toInt + 1)))) hP
            have hD : va_D A (WW nW hw lw kw u62 wb u60) := by rw [hu62]; exact Eq.mp (congrArg (fun z9 => va_D A z9) (WW_sl (by omega) (iI ((u56 tt).toInt + 1)))) hD
            have b_u62 : ∀ q : Nat, 0 ≤ (u62 q).toInt ∧ (u62 q).toInt ≤ 14 := by rw [hu62]; exact fT_r b_u56 (iI_rng (by omega) (by omega) (by decide) (by decide))
            have q_u62 : (u62 tt).toInt = ((u56 tt).toInt + 1) := by rw [hu62, fT_eq]; exact (iI_t (by omega) (by omega))
            clear hu62
            have hl : lv_has _ _ ([(5, .int l5_x17), (3, .long l3_x17), (2, .int v1), (0, .ref (hw tt)), (1, .ref (hw ta))]) := lv_sub hl [0, 1, 2, 3, 4] rfl
            exact join26 _ _ _ _ ⟨u62, u60, b_u62, rfl, hP, hD, hS, hl⟩
      · rintro H locs ls stk ⟨wl_j26, wG_j26, b_wl_j26, rfl, hP, hD, hS, hl⟩
        refine W.widen (k := 0) (n := 0) (by decide +kernel) (by decide +kernel) ?_
        exact W.vret hx hb hr (fun t9_ ht hW => ⟨⟨(wl_j26, wG_j26), rfl, b_wl_j26, by rw [ht]; exact hP, hD⟩, hS.F ht⟩) hS.2.2 dX8_addSize_127
    · have t_20 : ¬ l5_x17.toInt ≥ v1.toInt := toI_nge c_20 rfl rfl
      refine lv_iload hx hb dX8_addSize_23 (lv_at hl 0 rfl) ?_
      refine lv_aload_n hx hb dX8_addSize_25 rfl (lv_at hl 3 rfl) ?_
      refine va_get (D := (dC, dI)) (ci := 8) (v := .int (wl tt)) (C := RX8) (T := TX8) (N := 3) hx hb hts iwsMX8_addSize_in8 hown hK hP (tt) (WW_o (by omega)) rfl 1 (by decide) (hts (.fieldLink RX8 17 "OptimaWorks$Whole" "length" "I") (by decide +kernel)) (fun _ h9 => h9) rfl dX8_addSize_26 ?_
      have br26 := b_wl tt
      refine W.cut (pc := 43) (fun H locs ls stk => ∃ (k0_j27 : Int64),  stk = [.long k0_j27] ∧ va_P (dC, dI) vwCl (WW nW hw lw kw wl wb wG_x17) H ∧ va_D A (WW nW hw lw kw wl wb wG_x17) ∧ va_S A s.heap H locs ∧ lv_has ls 8 [(5, .int l5_x17), (3, .long l3_x17), (2, .int v1), (0, .ref (hw tt)), (1, .ref (hw ta))]) (fun join27 => ?_) ?_
      · refine lv_icmp_ge (tgt := 42) hx hb dX8_addSize_29 (by decide) (fun c_29 => ?_) (fun c_29 => ?_)
        · have t_29 : l5_x17.toInt ≥ (wl tt).toInt := toI_ge c_29 rfl rfl
          refine lv_lconst (v := 0) hx hb dX8_addSize_42 (by decide) ?_
          have hl : lv_has _ _ ([(5, .int l5_x17), (3, .long l3_x17), (2, .int v1), (0, .ref (hw tt)), (1, .ref (hw ta))]) := lv_sub hl [0, 1, 2, 3, 4] rfl
          exact join27 _ _ _ _ ⟨0, rfl, hP, hD, hS, hl⟩
        · have t_29 : ¬ l5_x17.toInt ≥ (wl tt).toInt := toI_nge c_29 rfl rfl
          refine lv_aload_n hx hb dX8_addSize_32 rfl (lv_at hl 3 rfl) ?_
          refine va_get (D := (dC, dI)) (ci := 8) (v := .ref (lw tt)) (C := RX8) (T := TX8) (N := 3) hx hb hts iwsMX8_addSize_in8 hown hK hP (tt) (WW_o (by omega)) rfl 0 (by decide) (hts (.fieldLink RX8 9 "OptimaWorks$Whole" "limb" "[J") (by decide +kernel)) (fun _ h9 => h9) rfl dX8_addSize_33 ?_
          refine lv_iload hx hb dX8_addSize_36 (lv_at hl 0 rfl) ?_
          refine va_lald (cA := kw) (n := 14) (f := (wG_x17 tt)) hx hb hK hP (nW + tt) 0 (WW_a (by omega)) rfl (vp_in_iff.mpr ⟨b_l5_x17.1, (by omega)⟩) dX8_addSize_38 ?_
          refine lv_topl (fun v64 hv64 => ?_)
          clear hv64
          refine lv_goto (tgt := 43) hx hb dX8_addSize_39 (by decide) ?_
          have hl : lv_has _ _ ([(5, .int l5_x17), (3, .long l3_x17), (2, .int v1), (0, .ref (hw tt)), (1, .ref (hw ta))]) := lv_sub hl [0, 1, 2, 3, 4] rfl
          exact join27 _ _ _ _ ⟨v64, rfl, hP, hD, hS, hl⟩
      · rintro H locs ls stk ⟨k0_j27, rfl, hP, hD, hS, hl⟩
        refine lv_iload hx hb dX8_addSize_43 (lv_at hl 0 rfl) ?_
        refine lv_aload_n hx hb dX8_addSize_45 rfl (lv_at hl 4 rfl) ?_
        refine va_get (D := (dC, dI)) (ci := 8) (v := .int (wl ta)) (C := RX8) (T := TX8) (N := 3) hx hb hts iwsMX8_addSize_in8 hown hK hP (ta) (WW_o (by omega)) rfl 1 (by decide) (hts (.fieldLink RX8 17 "OptimaWorks$Whole" "length" "I") (by decide +kernel)) (fun _ h9 => h9) rfl dX8_addSize_46 ?_
        have br46 := b_wl ta
        refine W.cut (pc := 63) (fun H locs ls stk => ∃ (k0_j28 : Int64),  stk = [.long k0_j28, .long k0_j27] ∧ va_P (dC, dI) vwCl (WW nW hw lw kw wl wb wG_x17) H ∧ va_D A (WW nW hw lw kw wl wb wG_x17) ∧ va_S A s.heap H locs ∧ lv_has ls 8 [(5, .int l5_x17), (3, .long l3_x17), (2, .int v1), (0, .ref (hw tt)), (1, .ref (hw ta))]) (fun join28 => ?_) ?_
        · refine lv_icmp_ge (tgt := 62) hx hb dX8_addSize_49 (by decide) (fun c_49 => ?_) (fun c_49 => ?_)
          · have t_49 : l5_x17.toInt ≥ (wl ta).toInt := toI_ge c_49 rfl rfl
            refine lv_lconst (v := 0) hx hb dX8_addSize_62 (by decide) ?_
            have hl : lv_has _ _ ([(5, .int l5_x17), (3, .long l3_x17), (2, .int v1), (0, .ref (hw tt)), (1, .ref (hw ta))]) := lv_sub hl [0, 1, 2, 3, 4] rfl
            exact join28 _ _ _ _ ⟨0, rfl, hP, hD, hS, hl⟩
          · have t_49 : ¬ l5_x17.toInt ≥ (wl ta).toInt := toI_nge c_49 rfl rfl
            refine lv_aload_n hx hb dX8_addSize_52 rfl (lv_at hl 4 rfl) ?_
            refine va_get (D := (dC, dI)) (ci := 8) (v := .ref (lw ta)) (C := RX8) (T := TX8) (N := 3) hx hb hts iwsMX8_addSize_in8 hown hK hP (ta) (WW_o (by omega)) rfl 0 (by decide) (hts (.fieldLink RX8 9 "OptimaWorks$Whole" "limb" "[J") (by decide +kernel)) (fun _ h9 => h9) rfl dX8_addSize_53 ?_
            refine lv_iload hx hb dX8_addSize_56 (lv_at hl 0 rfl) ?_
            refine va_lald (cA := kw) (n := 14) (f := (wG_x17 ta)) hx hb hK hP (nW + ta) 0 (WW_a (by omega)) rfl (vp_in_iff.mpr ⟨b_l5_x17.1, (by omega)⟩) dX8_addSize_58 ?_
            refine lv_topl (fun v66 hv66 => ?_)
            clear hv66
            refine lv_goto (tgt := 63) hx hb dX8_addSize_59 (by decide) ?_
            have hl : lv_has _ _ ([(5, .int l5_x17), (3, .long l3_x17), (2, .int v1), (0, .ref (hw tt)), (1, .ref (hw ta))]) := lv_sub hl [0, 1, 2, 3, 4] rfl
            exact join28 _ _ _ _ ⟨v66, rfl, hP, hD, hS, hl⟩
        · rintro H locs ls stk ⟨k0_j28, rfl, hP, hD, hS, hl⟩
          refine lv_ladd hx hb dX8_addSize_63 ?_
          refine lv_topl (fun v67 hv67 => ?_)
          clear hv67
          refine lv_lload_n hx hb dX8_addSize_64 rfl (lv_at hl 1 rfl) ?_
          refine lv_ladd hx hb dX8_addSize_65 ?_
          refine lv_topl (fun v68 hv68 => ?_)
          clear hv68
          refine lv_lstore hx hb dX8_addSize_66 hl (by decide) rfl (fun ls (hl : lv_has ls _ ([(6, .long v68), (5, .int l5_x17), (3, .long l3_x17), (2, .int v1), (0, .ref (hw tt)), (1, .ref (hw ta))])) => ?_)
          refine lv_aload_n hx hb dX8_addSize_68 rfl (lv_at hl 4 rfl) ?_
          refine va_get (D := (dC, dI)) (ci := 8) (v := .ref (lw tt)) (C := RX8) (T := TX8) (N := 3) hx hb hts iwsMX8_addSize_in8 hown hK hP (tt) (WW_o (by omega)) rfl 0 (by decide) (hts (.fieldLink RX8 9 "OptimaWorks$Whole" "limb" "[J") (by decide +kernel)) (fun _ h9 => h9) rfl dX8_addSize_69 ?_
          refine lv_iload hx hb dX8_addSize_72 (lv_at hl 1 rfl) ?_
          refine lv_lload hx hb dX8_addSize_74 (lv_at hl 0 rfl) ?_
          refine lv_ldc2 (v := 1073741823) hx hb hown (hts (.constantLong RX8 21 1073741823) (by decide +kernel)) dX8_addSize_76 ?_
          refine lv_land hx hb dX8_addSize_79 ?_
          refine lv_topl (fun v69 hv69 => ?_)
          clear hv69
          refine va_last (cA := kw) (n := 14) (f := (wG_x17 tt)) hx hb hK hP hD hS (nW + tt) 0 (WW_a (by omega)) rfl (vp_in_iff.mpr ⟨b_l5_x17.1, (by omega)⟩) dX8_addSize_80 (fun H locs hP hD hS => ?_)
          obtain ⟨u70, hu70⟩ : ∃ f9, f9 = fT wG_x17 tt (vp_updL (wG_x17 tt) (l5_x17).toNatClampNeg v69) := ⟨_, rfl⟩
          have hP : va_P (dC, dI) vwCl (WW nW hw lw kw wl wb u70) H := by rw [hu70]; exact Eq.mp (congrArg (fun z9 => va_P (dC, dI) vwCl z9 H) (WW_sg (by omega) (vp_updL (wG_x17 tt) (l5_x17).toNatClampNeg v69))) hP
          have hD : va_D A (WW nW hw lw kw wl wb u70) := by rw [hu70]; exact Eq.mp (congrArg (fun z9 => va_D A z9) (WW_sg (by omega) (vp_updL (wG_x17 tt) (l5_x17).toNatClampNeg v69))) hD
          clear hu70
          refine lv_lload hx hb dX8_addSize_81 (lv_at hl 0 rfl) ?_
          refine lv_bipush (v := 30) hx hb dX8_addSize_83 (by decide) ?_
          refine lv_lushr hx hb dX8_addSize_85 rfl ?_
          refine lv_topl (fun v71 hv71 => ?_)
          clear hv71
          refine lv_lstore_n hx hb dX8_addSize_86 rfl hl (by decide) rfl (fun ls (hl : lv_has ls _ ([(3, .long v71), (6, .long v68), (5, .int l5_x17), (2, .int v1), (0, .ref (hw tt)), (1, .ref (hw ta))])) => ?_)
          refine lv_iinc (v := (iI (l5_x17.toInt + 1))) hx hb dX8_addSize_87 hl (k := 2) rfl (iI_add2 (iI_of _) (by decide : (1 : Int32) = iI 1)) (by decide) rfl (fun ls (hl : lv_has ls _ ([(5, .int (iI (l5_x17.toInt + 1))), (3, .long v71), (6, .long v68), (2, .int v1), (0, .ref (hw tt)), (1, .ref (hw ta))])) => ?_)
          refine lv_goto (tgt := 17) hx hb dX8_addSize_90 (by decide) ?_
          have hl : lv_has _ _ ([(5, .int (iI (l5_x17.toInt + 1))), (3, .long v71), (2, .int v1), (0, .ref (hw tt)), (1, .ref (hw ta))]) := lv_sub hl [0, 1, 3, 4, 5] rfl
          exact ihx17 u70 (iI (l5_x17.toInt + 1)) v71 _ _ _ (iI_rng (Int.le_trans (by decide) (Int.add_le_add (b_l5_x17.1) (Int.le_refl _))) (by omega) (by decide) (by decide)) (by have e9 : ((iI (l5_x17.toInt + 1))).toInt = (l5_x17.toInt + 1) := (iI_t (Int.le_trans (by decide) (Int.add_le_add (b_l5_x17.1) (Int.le_refl _))) (Int.le_trans (Int.add_le_add (b_l5_x17.2) (Int.le_refl _)) (by decide))); omega) hP hD hS hl
theorem dX8_takeSize_0 : decode cX8_takeSize 0 = .ok (.aload_n 1, 1) := dk_43 (by decide +kernel)
theorem dX8_takeSize_1 : decode cX8_takeSize 1 = .ok (.getfield 17, 3) := dk_180 (by decide +kernel)
theorem dX8_takeSize_4 : decode cX8_takeSize 4 = .ok (.istore_n 3, 1) := dk_62 (by decide +kernel)
theorem dX8_takeSize_5 : decode cX8_takeSize 5 = .ok (.lconst 0, 1) := dk_9 (by decide +kernel)
theorem dX8_takeSize_6 : decode cX8_takeSize 6 = .ok (.lstore 4, 2) := dk_55 (by decide +kernel)
theorem dX8_takeSize_8 : decode cX8_takeSize 8 = .ok (.iconst 0, 1) := dk_3 (by decide +kernel)
theorem dX8_takeSize_9 : decode cX8_takeSize 9 = .ok (.istore 6, 2) := dk_54 (by decide +kernel)
theorem dX8_takeSize_11 : decode cX8_takeSize 11 = .ok (.iload 6, 2) := dk_21 (by decide +kernel)
theorem dX8_takeSize_13 : decode cX8_takeSize 13 = .ok (.iload_n 3, 1) := dk_29 (by decide +kernel)
theorem dX8_takeSize_14 : decode cX8_takeSize 14 = .ok (.if_icmp .ge 69, 3) := dk_162 (by decide +kernel)
theorem dX8_takeSize_17 : decode cX8_takeSize 17 = .ok (.aload_n 1, 1) := dk_43 (by decide +kernel)
theorem dX8_takeSize_18 : decode cX8_takeSize 18 = .ok (.getfield 9, 3) := dk_180 (by decide +kernel)
theorem dX8_takeSize_21 : decode cX8_takeSize 21 = .ok (.iload 6, 2) := dk_21 (by decide +kernel)
theorem dX8_takeSize_23 : decode cX8_takeSize 23 = .ok (.laload, 1) := dk_47 (by decide +kernel)
theorem dX8_takeSize_24 : decode cX8_takeSize 24 = .ok (.iload 6, 2) := dk_21 (by decide +kernel)
theorem dX8_takeSize_26 : decode cX8_takeSize 26 = .ok (.aload_n 2, 1) := dk_44 (by decide +kernel)
theorem dX8_takeSize_27 : decode cX8_takeSize 27 = .ok (.getfield 17, 3) := dk_180 (by decide +kernel)
theorem dX8_takeSize_30 : decode cX8_takeSize 30 = .ok (.if_icmp .ge 13, 3) := dk_162 (by decide +kernel)
theorem dX8_takeSize_33 : decode cX8_takeSize 33 = .ok (.aload_n 2, 1) := dk_44 (by decide +kernel)
theorem dX8_takeSize_34 : decode cX8_takeSize 34 = .ok (.getfield 9, 3) := dk_180 (by decide +kernel)
theorem dX8_takeSize_37 : decode cX8_takeSize 37 = .ok (.iload 6, 2) := dk_21 (by decide +kernel)
theorem dX8_takeSize_39 : decode cX8_takeSize 39 = .ok (.laload, 1) := dk_47 (by decide +kernel)
theorem dX8_takeSize_40 : decode cX8_takeSize 40 = .ok (.goto 4, 3) := dk_167 (by decide +kernel)
theorem dX8_takeSize_43 : decode cX8_takeSize 43 = .ok (.lconst 0, 1) := dk_9 (by decide +kernel)
theorem dX8_takeSize_44 : decode cX8_takeSize 44 = .ok (.lsub, 1) := dk_101 (by decide +kernel)
theorem dX8_takeSize_45 : decode cX8_takeSize 45 = .ok (.lload 4, 2) := dk_22 (by decide +kernel)
theorem dX8_takeSize_47 : decode cX8_takeSize 47 = .ok (.lsub, 1) := dk_101 (by decide +kernel)
theorem dX8_takeSize_48 : decode cX8_takeSize 48 = .ok (.lstore 7, 2) := dk_55 (by decide +kernel)
theorem dX8_takeSize_50 : decode cX8_takeSize 50 = .ok (.lload 7, 2) := dk_22 (by decide +kernel)
theorem dX8_takeSize_52 : decode cX8_takeSize 52 = .ok (.lconst 0, 1) := dk_9 (by decide +kernel)
theorem dX8_takeSize_53 : decode cX8_takeSize 53 = .ok (.lcmp, 1) := dk_148 (by decide +kernel)
theorem dX8_takeSize_54 : decode cX8_takeSize 54 = .ok (.ifCond .ge 7, 3) := dk_156 (by decide +kernel)
theorem dX8_takeSize_57 : decode cX8_takeSize 57 = .ok (.lconst 1, 1) := dk_10 (by decide +kernel)
theorem dX8_takeSize_58 : decode cX8_takeSize 58 = .ok (.goto 4, 3) := dk_167 (by decide +kernel)
theorem dX8_takeSize_61 : decode cX8_takeSize 61 = .ok (.lconst 0, 1) := dk_9 (by decide +kernel)
theorem dX8_takeSize_62 : decode cX8_takeSize 62 = .ok (.lstore 4, 2) := dk_55 (by decide +kernel)
theorem dX8_takeSize_64 : decode cX8_takeSize 64 = .ok (.aload_n 0, 1) := dk_42 (by decide +kernel)
theorem dX8_takeSize_65 : decode cX8_takeSize 65 = .ok (.getfield 9, 3) := dk_180 (by decide +kernel)
theorem dX8_takeSize_68 : decode cX8_takeSize 68 = .ok (.iload 6, 2) := dk_21 (by decide +kernel)
theorem dX8_takeSize_70 : decode cX8_takeSize 70 = .ok (.lload 7, 2) := dk_22 (by decide +kernel)
theorem dX8_takeSize_72 : decode cX8_takeSize 72 = .ok (.ldc2_w 21, 3) := dk_20 (by decide +kernel)
theorem dX8_takeSize_75 : decode cX8_takeSize 75 = .ok (.land, 1) := dk_127 (by decide +kernel)
theorem dX8_takeSize_76 : decode cX8_takeSize 76 = .ok (.lastore, 1) := dk_80 (by decide +kernel)
theorem dX8_takeSize_77 : decode cX8_takeSize 77 = .ok (.iinc 6 1, 3) := dk_132 (by decide +kernel)
theorem dX8_takeSize_80 : decode cX8_takeSize 80 = .ok (.goto (-69), 3) := dk_167 (by decide +kernel)
theorem dX8_takeSize_83 : decode cX8_takeSize 83 = .ok (.aload_n 0, 1) := dk_42 (by decide +kernel)
theorem dX8_takeSize_84 : decode cX8_takeSize 84 = .ok (.iload_n 3, 1) := dk_29 (by decide +kernel)
theorem dX8_takeSize_85 : decode cX8_takeSize 85 = .ok (.putfield 17, 3) := dk_181 (by decide +kernel)
theorem dX8_takeSize_88 : decode cX8_takeSize 88 = .ok (.return_, 1) := dk_177 (by decide +kernel)
def wsMX8_takeSize : List Cond := .code yX8_takeSize cX8_takeSize 9 none :: ([.fieldLink RX8 17 "OptimaWorks$Whole" "length" "I", .fieldLink RX8 9 "OptimaWorks$Whole" "limb" "[J", .constantLong RX8 21 1073741823] ++ wsX80)
theorem iwsMX8_takeSize_in8 : ∀ w ∈ wsX80, w ∈ wsMX8_takeSize := fun _ h => List.mem_cons_of_mem _ (List.mem_append_right _ h)
theorem gdwsMX8_takeSize : wsMX8_takeSize.all goodWord = true := gdC rfl (gdA (by decide +kernel : ([.fieldLink RX8 17 "OptimaWorks$Whole" "length" "I", .fieldLink RX8 9 "OptimaWorks$Whole" "limb" "[J", .constantLong RX8 21 1073741823] : List Cond).all goodWord = true) gdwsX80)
set_option maxHeartbeats 4000000 in
set_option maxRecDepth 100000 in
/-- sizes taken off -/
theorem m_X8_takeSize (l : Launch) (dC : Nat → ClassId) (dI : Nat → Nat → Nat) (nW : Nat) (hw : Nat → Nat) (lw : Nat → Nat) (kw : ClassId) (wl : Nat → Int32) (wb : Nat → Int32) (wG : Nat → Nat → Int64) (tt : Nat) (ta : Nat) (tb : Nat) (b_wl : ∀ q : Nat, 0 ≤ (wl q).toInt ∧ (wl q).toInt ≤ 14) (b_wb : ∀ q : Nat, 0 ≤ (wb q).toInt ∧ (wb q).toInt ≤ 1) (htt : tt < nW) (hta : ta < nW) (htb : tb < nW) (sz : Nat) : Met l yX8_takeSize wsMX8_takeSize ({ frames := 0, cells := 0, slots := 0, locals := 0 }) (va_Pc [.ref (hw tt), .ref (hw ta), .ref (hw tb)] (fun U => U.heap.size = sz ∧ va_P (dC, dI) vwCl (WW nW hw lw kw wl wb wG) U.heap ∧ va_K (dC, dI) vwCl (tW kw) U ∧ va_D (fun _ => True) (WW nW hw lw kw wl wb wG))) (va_Qv (fun (u : (Nat → Int32) × (Nat → Nat → Int64)) => (∀ q : Nat, 0 ≤ ((u.1) q).toInt ∧ ((u.1) q).toInt ≤ 14)) (fun (u : (Nat → Int32) × (Nat → Nat → Int64)) t => va_P (dC, dI) vwCl (WW nW hw lw kw (u.1) wb (u.2)) t.heap ∧ va_D (va_A (WW nW hw lw kw wl wb wG) sz) (WW nW hw lw kw (u.1) wb (u.2))) (va_A (WW nW hw lw kw wl wb wG) sz)) 0 0 (va_A (WW nW hw lw kw wl wb wG) sz) := by
  refine Met.ofW (cc := cX8_takeSize) (maxL := 9) (ret := none) (by decide) rfl ?_
  intro p e s m args below meth c s₁ B hml hv
  obtain ⟨rfl, hsz, hP, hK, hD0⟩ := hv
  have hx := B.exec
  have hb := B.bytes
  have hr := B.returns
  have hts := atoms_spec (ws := wsMX8_takeSize) B.pre
  have hown : s.vm.findClass RX8 = some m.cls := findClass_of_methodNamed B.named
  have hlocks := B.notSynchronized
  subst hsz
  have hD := hD0.self (sz := s.heap.size)
  generalize hAe : va_A (WW nW hw lw kw wl wb wG) s.heap.size = A at hD ⊢
  have hA : ∀ q : Nat, s.heap.size ≤ q → A q := fun q h => by rw [← hAe]; exact Or.inr h
  have hS : va_S A s.heap s.heap [] := va_S.rf
  have hl := lv_entry ([.ref (hw tt), .ref (hw ta), .ref (hw tb)]) (n := 9) (Nat.le_of_ble_eq_true rfl)
  rw [lg_entry_eq]
  generalize (lg_sl ([.ref (hw tt), .ref (hw ta), .ref (hw tb)]) ++ List.replicate (9 - (lg_sl ([.ref (hw tt), .ref (hw ta), .ref (hw tb)])).length) Slot.unset).toArray = ls at hl ⊢
  have hl : lv_has ls 9 [(0, .ref (hw tt)), (1, .ref (hw ta)), (2, .ref (hw tb))] := hl
  refine lv_aload_n hx hb dX8_takeSize_0 rfl (lv_at hl 1 rfl) ?_
  refine va_get (D := (dC, dI)) (ci := 8) (v := .int (wl ta)) (C := RX8) (T := TX8) (N := 3) hx hb hts iwsMX8_takeSize_in8 hown hK hP (ta) (WW_o (by omega)) rfl 1 (by decide) (hts (.fieldLink RX8 17 "OptimaWorks$Whole" "length" "I") (by decide +kernel)) (fun _ h9 => h9) rfl dX8_takeSize_1 ?_
  have br1 := b_wl ta
  refine lv_istore_n hx hb dX8_takeSize_4 rfl hl (by decide) rfl (fun ls (hl : lv_has ls _ ([(3, .int (wl ta)), (0, .ref (hw tt)), (1, .ref (hw ta)), (2, .ref (hw tb))])) => ?_)
  refine lv_lconst (v := 0) hx hb dX8_takeSize_5 (by decide) ?_
  refine lv_lstore hx hb dX8_takeSize_6 hl (by decide) rfl (fun ls (hl : lv_has ls _ ([(4, .long 0), (3, .int (wl ta)), (0, .ref (hw tt)), (1, .ref (hw ta)), (2, .ref (hw tb))])) => ?_)
  refine lv_iconst (v := 0) hx hb dX8_takeSize_8 (by decide) ?_
  refine lv_istore hx hb dX8_takeSize_9 hl (by decide) rfl (fun ls (hl : lv_has ls _ ([(6, .int 0), (4, .long 0), (3, .int (wl ta)), (0, .ref (hw tt)), (1, .ref (hw ta)), (2, .ref (hw tb))])) => ?_)
  have hl : lv_has _ _ ([(6, .int 0), (4, .long 0), (3, .int (wl ta)), (0, .ref (hw tt)), (1, .ref (hw ta)), (2, .ref (hw tb))]) := lv_sub hl [0, 1, 2, 3, 4, 5] rfl
  refine (fun (loop : ∀ (n9 : Nat) (wG_x11 : Nat → Nat → Int64) (l6_x11 : Int32) (l4_x11 : Int64) (H : Heap) (locs : List Loc) (ls : Array Slot), (0 ≤ l6_x11.toInt ∧ l6_x11.toInt ≤ 14) → (14 - l6_x11.toInt < ((n9 : Nat) : Int)) → va_P (dC, dI) vwCl (WW nW hw lw kw wl wb wG_x11) H → va_D A (WW nW hw lw kw wl wb wG_x11) → va_S A s.heap H locs → lv_has ls 9 [(6, .int l6_x11), (4, .long l4_x11), (3, .int (wl ta)), (0, .ref (hw tt)), (1, .ref (hw ta)), (2, .ref (hw tb))] → W p l e _ s m _ below meth c H locs 0 0 _ (F0 m 11 ls [])) => loop (15) wG 0 0 _ _ _ (show 0 ≤ (0 : Int32).toInt ∧ (0 : Int32).toInt ≤ 14 from by decide) ((by have e9 : (0 : Int32).toInt = 0 := (by decide : (0 : Int32).toInt = 0); omega)) hP hD hS hl) ?_
  intro n9
  induction n9 with
  | zero => intro wG_x11 l6_x11 l4_x11 H locs ls b_l6_x11 hf9; exact False.elim (by omega)
  | succ n9 ihx11 =>
    intro wG_x11 l6_x11 l4_x11 H locs ls b_l6_x11 hfx11 hP hD hS hl
    refine lv_iload hx hb dX8_takeSize_11 (lv_at hl 0 rfl) ?_
    refine lv_iload_n hx hb dX8_takeSize_13 rfl (lv_at hl 2 rfl) ?_
    refine lv_icmp_ge (tgt := 83) hx hb dX8_takeSize_14 (by decide) (fun c_14 => ?_) (fun c_14 => ?_)
    · have t_14 : l6_x11.toInt ≥ (wl ta).toInt := toI_ge c_14 rfl rfl
      refine lv_aload_n hx hb dX8_takeSize_83 rfl (lv_at hl 3 rfl) ?_
      refine lv_iload_n hx hb dX8_takeSize_84 rfl (lv_at hl 2 rfl) ?_
      refine va_put (D := (dC, dI)) (ci := 8) (v := .int (wl ta)) (ty := .int) (C := RX8) (T := TX8) (N := 3) hx hb hts iwsMX8_takeSize_in8 tyX8 tyX8_ok nmX8 hown hK hP hD hS (tt) (WW_o (by omega)) rfl 1 (by decide) (hts (.fieldLink RX8 17 "OptimaWorks$Whole" "length" "I") (by decide +kernel)) (fun _ h9 => h9) rfl (by decide +kernel) rfl rfl (Nat.le_of_ble_eq_true rfl) dX8_takeSize_85 (fun H locs hP hD hS => ?_)
      obtain ⟨u38, hu38⟩ : ∃ f9, f9 = fT wl tt (wl ta) := ⟨_, rfl⟩
      have hP : va_P (dC, dI) vwCl (WW nW hw lw kw u38 wb wG_x11) H := by rw [hu38]; exact Eq.mp (congrArg (fun z9 => va_P (dC, dI) vwCl z9 H) (WW_sl (by omega) (wl ta))) hP
      have hD : va_D A (WW nW hw lw kw u38 wb wG_x11) := by rw [hu38]; exact Eq.mp (congrArg (fun z9 => va_D A z9) (WW_sl (by omega) (wl ta))) hD
      have b_u38 : ∀ q : Nat, 0 ≤ (u38 q).toInt ∧ (u38 q).toInt ≤ 14 := by rw [hu38]; exact fT_r b_wl (by first | assumption | exact ⟨by omega, by omega⟩)
      have q_u38 : (u38 tt).toInt = (wl ta).toInt := by rw [hu38, fT_eq]
      clear hu38
      refine W.widen (k := 0) (n := 0) (by decide +kernel) (by decide +kernel) ?_
      exact W.vret hx hb hr (fun t9_ ht hW => ⟨⟨(u38, wG_x11), rfl, b_u38, by rw [ht]; exact hP, hD⟩, hS.F ht⟩) hS.2.2 dX8_takeSize_88
    · have t_14 : ¬ l6_x11.toInt ≥ (wl ta).toInt := toI_nge c_14 rfl rfl
      refine lv_aload_n hx hb dX8_takeSize_17 rfl (lv_at hl 4 rfl) ?_
      refine va_get (D := (dC, dI)) (ci := 8) (v := .ref (lw ta)) (C := RX8) (T := TX8) (N := 3) hx hb hts iwsMX8_takeSize_in8 hown hK hP (ta) (WW_o (by omega)) rfl 0 (by decide) (hts (.fieldLink RX8 9 "OptimaWorks$Whole" "limb" "[J") (by decide +kernel)) (fun _ h9 => h9) rfl dX8_takeSize_18 ?_
      refine lv_iload hx hb dX8_takeSize_21 (lv_at hl 0 rfl) ?_
      refine va_lald (cA := kw) (n := 14) (f := (wG_x11 ta)) hx hb hK hP (nW + ta) 0 (WW_a (by omega)) rfl (vp_in_iff.mpr ⟨b_l6_x11.1, (by omega)⟩) dX8_takeSize_23 ?_
      refine lv_topl (fun v39 hv39 => ?_)
      clear hv39
      refine lv_iload hx hb dX8_takeSize_24 (lv_at hl 0 rfl) ?_
      refine lv_aload_n hx hb dX8_takeSize_26 rfl (lv_at hl 5 rfl) ?_
      refine va_get (D := (dC, dI)) (ci := 8) (v := .int (wl tb)) (C := RX8) (T := TX8) (N := 3) hx hb hts iwsMX8_takeSize_in8 hown hK hP (tb) (WW_o (by omega)) rfl 1 (by decide) (hts (.fieldLink RX8 17 "OptimaWorks$Whole" "length" "I") (by decide +kernel)) (fun _ h9 => h9) rfl dX8_takeSize_27 ?_
      have br27 := b_wl tb
      refine W.cut (pc := 44) (fun H locs ls stk => ∃ (k0_j23 : Int64),  stk = [.long k0_j23, .long v39] ∧ va_P (dC, dI) vwCl (WW nW hw lw kw wl wb wG_x11) H ∧ va_D A (WW nW hw lw kw wl wb wG_x11) ∧ va_S A s.heap H locs ∧ lv_has ls 9 [(6, .int l6_x11), (4, .long l4_x11), (3, .int (wl ta)), (0, .ref (hw tt)), (1, .ref (hw ta)), (2, .ref (hw tb))]) (fun join23 => ?_) ?_
      · refine lv_icmp_ge (tgt := 43) hx hb dX8_takeSize_30 (by decide) (fun c_30 => ?_) (fun c_30 => ?_)
        · have t_30 : l6_x11.toInt ≥ (wl tb).toInt := toI_ge c_30 rfl rfl
          refine lv_lconst (v := 0) hx hb dX8_takeSize_43 (by decide) ?_
          have hl : lv_has _ _ ([(6, .int l6_x11), (4, .long l4_x11), (3, .int (wl ta)), (0, .ref (hw tt)), (1, .ref (hw ta)), (2, .ref (hw tb))]) := lv_sub hl [0, 1, 2, 3, 4, 5] rfl
          exact join23 _ _ _ _ ⟨0, rfl, hP, hD, hS, hl⟩
        · have t_30 : ¬ l6_x11.toInt ≥ (wl tb).toInt := toI_nge c_30 rfl rfl
          refine lv_aload_n hx hb dX8_takeSize_33 rfl (lv_at hl 5 rfl) ?_
          refine va_get (D := (dC, dI)) (ci := 8) (v := .ref (lw tb)) (C := RX8) (T := TX8) (N := 3) hx hb hts iwsMX8_takeSize_in8 hown hK hP (tb) (WW_o (by omega)) rfl 0 (by decide) (hts (.fieldLink RX8 9 "OptimaWorks$Whole" "limb" "[J") (by decide +kernel)) (fun _ h9 => h9) rfl dX8_takeSize_34 ?_
          refine lv_iload hx hb dX8_takeSize_37 (lv_at hl 0 rfl) ?_
          refine va_lald (cA := kw) (n := 14) (f := (wG_x11 tb)) hx hb hK hP (nW + tb) 0 (WW_a (by omega)) rfl (vp_in_iff.mpr ⟨b_l6_x11.1, (by omega)⟩) dX8_takeSize_39 ?_
          refine lv_topl (fun v41 hv41 => ?_)
          clear hv41
          refine lv_goto (tgt := 44) hx hb dX8_takeSize_40 (by decide) ?_
          have hl : lv_has _ _ ([(6, .int l6_x11), (4, .long l4_x11), (3, .int (wl ta)), (0, .ref (hw tt)), (1, .ref (hw ta)), (2, .ref (hw tb))]) := lv_sub hl [0, 1, 2, 3, 4, 5] rfl
          exact join23 _ _ _ _ ⟨v41, rfl, hP, hD, hS, hl⟩
      · rintro H locs ls stk ⟨k0_j23, rfl, hP, hD, hS, hl⟩
        refine lv_lsub hx hb dX8_takeSize_44 ?_
        refine lv_topl (fun v42 hv42 => ?_)
        clear hv42
        refine lv_lload hx hb dX8_takeSize_45 (lv_at hl 1 rfl) ?_
        refine lv_lsub hx hb dX8_takeSize_47 ?_
        refine lv_topl (fun v43 hv43 => ?_)
        clear hv43
        refine lv_lstore hx hb dX8_takeSize_48 hl (by decide) rfl (fun ls (hl : lv_has ls _ ([(7, .long v43), (6, .int l6_x11), (4, .long l4_x11), (3, .int (wl ta)), (0, .ref (hw tt)), (1, .ref (hw ta)), (2, .ref (hw tb))])) => ?_)
        refine lv_lload hx hb dX8_takeSize_50 (lv_at hl 0 rfl) ?_
        refine lv_lconst (v := 0) hx hb dX8_takeSize_52 (by decide) ?_
        refine W.lcmp hx hb dX8_takeSize_53 ?_
        refine W.cut (pc := 62) (fun H locs ls stk => ∃ (k0_j24 : Int64), (0 ≤ k0_j24.toInt ∧ k0_j24.toInt ≤ 1) ∧  stk = [.long k0_j24] ∧ va_P (dC, dI) vwCl (WW nW hw lw kw wl wb wG_x11) H ∧ va_D A (WW nW hw lw kw wl wb wG_x11) ∧ va_S A s.heap H locs ∧ lv_has ls 9 [(7, .long v43), (6, .int l6_x11), (4, .long l4_x11), (3, .int (wl ta)), (0, .ref (hw tt)), (1, .ref (hw ta)), (2, .ref (hw tb))]) (fun join24 => ?_) ?_
        · refine lv_if_ge (tgt := 61) hx hb dX8_takeSize_54 (by decide) (fun c_54 => ?_) (fun c_54 => ?_)
          · have t_54 : v43.toInt ≥ 0 := toL_ge c_54 rfl (by decide : (0 : Int64).toInt = 0)
            refine lv_lconst (v := 0) hx hb dX8_takeSize_61 (by decide) ?_
            have hl : lv_has _ _ ([(7, .long v43), (6, .int l6_x11), (4, .long l4_x11), (3, .int (wl ta)), (0, .ref (hw tt)), (1, .ref (hw ta)), (2, .ref (hw tb))]) := lv_sub hl [0, 1, 2, 3, 4, 5, 6] rfl
            exact join24 _ _ _ _ ⟨0, (show 0 ≤ (0 : Int32).toInt ∧ (0 : Int32).toInt ≤ 1 from by decide), rfl, hP, hD, hS, hl⟩
          · have t_54 : ¬ v43.toInt ≥ 0 := toL_nge c_54 rfl (by decide : (0 : Int64).toInt = 0)
            refine lv_lconst (v := 1) hx hb dX8_takeSize_57 (by decide) ?_
            refine lv_goto (tgt := 62) hx hb dX8_takeSize_58 (by decide) ?_
            have hl : lv_has _ _ ([(7, .long v43), (6, .int l6_x11), (4, .long l4_x11), (3, .int (wl ta)), (0, .ref (hw tt)), (1, .ref (hw ta)), (2, .ref (hw tb))]) := lv_sub hl [0, 1, 2, 3, 4, 5, 6] rfl
            exact join24 _ _ _ _ ⟨1, (show 0 ≤ (1 : Int32).toInt ∧ (1 : Int32).toInt ≤ 1 from by decide), rfl, hP, hD, hS, hl⟩
        · rintro H locs ls stk ⟨k0_j24, b_k0_j24, rfl, hP, hD, hS, hl⟩
          refine lv_lstore hx hb dX8_takeSize_62 hl (by decide) rfl (fun ls (hl : lv_has ls _ ([(4, .long k0_j24), (7, .long v43), (6, .int l6_x11), (3, .int (wl ta)), (0, .ref (hw tt)), (1, .ref (hw ta)), (2, .ref (hw tb))])) => ?_)
          refine lv_aload_n hx hb dX8_takeSize_64 rfl (lv_at hl 4 rfl) ?_
          refine va_get (D := (dC, dI)) (ci := 8) (v := .ref (lw tt)) (C := RX8) (T := TX8) (N := 3) hx hb hts iwsMX8_takeSize_in8 hown hK hP (tt) (WW_o (by omega)) rfl 0 (by decide) (hts (.fieldLink RX8 9 "OptimaWorks$Whole" "limb" "[J") (by decide +kernel)) (fun _ h9 => h9) rfl dX8_takeSize_65 ?_
          refine lv_iload hx hb dX8_takeSize_68 (lv_at hl 2 rfl) ?_
          refine lv_lload hx hb dX8_takeSize_70 (lv_at hl 1 rfl) ?_
          refine lv_ldc2 (v := 1073741823) hx hb hown (hts (.constantLong RX8 21 1073741823) (by decide +kernel)) dX8_takeSize_72 ?_
          refine lv_land hx hb dX8_takeSize_75 ?_
          refine lv_topl (fun v44 hv44 => ?_)
          clear hv44
          refine va_last (cA := kw) (n := 14) (f := (wG_x11 tt)) hx hb hK hP hD hS (nW + tt) 0 (WW_a (by omega)) rfl (vp_in_iff.mpr ⟨b_l6_x11.1, (by omega)⟩) dX8_takeSize_76 (fun H locs hP hD hS => ?_)
          obtain ⟨u45, hu45⟩ : ∃ f9, f9 = fT wG_x11 tt (vp_updL (wG_x11 tt) (l6_x11).toNatClampNeg v44) := ⟨_, rfl⟩
          have hP : va_P (dC, dI) vwCl (WW nW hw lw kw wl wb u45) H := by rw [hu45]; exact Eq.mp (congrArg (fun z9 => va_P (dC, dI) vwCl z9 H) (WW_sg (by omega) (vp_updL (wG_x11 tt) (l6_x11).toNatClampNeg v44))) hP
          have hD : va_D A (WW nW hw lw kw wl wb u45) := by rw [hu45]; exact Eq.mp (congrArg (fun z9 => va_D A z9) (WW_sg (by omega) (vp_updL (wG_x11 tt) (l6_x11).toNatClampNeg v44))) hD
          clear hu45
          refine lv_iinc (v := (iI (l6_x11.toInt + 1))) hx hb dX8_takeSize_77 hl (k := 2) rfl (iI_add2 (iI_of _) (by decide : (1 : Int32) = iI 1)) (by decide) rfl (fun ls (hl : lv_has ls _ ([(6, .int (iI (l6_x11.toInt + 1))), (4, .long k0_j24), (7, .long v43), (3, .int (wl ta)), (0, .ref (hw tt)), (1, .ref (hw ta)), (2, .ref (hw tb))])) => ?_)
          refine lv_goto (tgt := 11) hx hb dX8_takeSize_80 (by decide) ?_
          have hl : lv_has _ _ ([(6, .int (iI (l6_x11.toInt + 1))), (4, .long k0_j24), (3, .int (wl ta)), (0, .ref (hw tt)), (1, .ref (hw ta)), (2, .ref (hw tb))]) := lv_sub hl [0, 1, 3, 4, 5, 6] rfl
          exact ihx11 u45 (iI (l6_x11.toInt + 1)) k0_j24 _ _ _ (iI_rng (Int.le_trans (by decide) (Int.add_le_add (b_l6_x11.1) (Int.le_refl _))) (by omega) (by decide) (by decide)) (by have e9 : ((iI (l6_x11.toInt + 1))).toInt = (l6_x11.toInt + 1) := (iI_t (Int.le_trans (by decide) (Int.add_le_add (b_l6_x11.1) (Int.le_refl _))) (Int.le_trans (Int.add_le_add (b_l6_x11.2) (Int.le_refl _)) (by decide))); omega) hP hD hS hl
theorem dX8_add_0 : decode cX8_add 0 = .ok (.aload_n 1, 1) := dk_43 (by decide +kernel)
theorem dX8_add_1 : decode cX8_add 1 = .ok (.getfield 17, 3) := dk_180 (by decide +kernel)
theorem dX8_add_4 : decode cX8_add 4 = .ok (.ifCond .ne 4, 3) := dk_154 (by decide +kernel)
theorem dX8_add_7 : decode cX8_add 7 = .ok (.return_, 1) := dk_177 (by decide +kernel)
theorem dX8_add_8 : decode cX8_add 8 = .ok (.aload_n 0, 1) := dk_42 (by decide +kernel)
theorem dX8_add_9 : decode cX8_add 9 = .ok (.getfield 17, 3) := dk_180 (by decide +kernel)
theorem dX8_add_12 : decode cX8_add 12 = .ok (.ifCond .eq 14, 3) := dk_153 (by decide +kernel)
theorem dX8_add_15 : decode cX8_add 15 = .ok (.aload_n 0, 1) := dk_42 (by decide +kernel)
theorem dX8_add_16 : decode cX8_add 16 = .ok (.getfield 13, 3) := dk_180 (by decide +kernel)
theorem dX8_add_19 : decode cX8_add 19 = .ok (.aload_n 1, 1) := dk_43 (by decide +kernel)
theorem dX8_add_20 : decode cX8_add 20 = .ok (.getfield 13, 3) := dk_180 (by decide +kernel)
theorem dX8_add_23 : decode cX8_add 23 = .ok (.if_icmp .ne 19, 3) := dk_160 (by decide +kernel)
theorem dX8_add_26 : decode cX8_add 26 = .ok (.aload_n 0, 1) := dk_42 (by decide +kernel)
theorem dX8_add_27 : decode cX8_add 27 = .ok (.aload_n 1, 1) := dk_43 (by decide +kernel)
theorem dX8_add_28 : decode cX8_add 28 = .ok (.invokevirtual 29, 3) := dk_182 (by decide +kernel)
theorem dX8_add_31 : decode cX8_add 31 = .ok (.aload_n 0, 1) := dk_42 (by decide +kernel)
theorem dX8_add_32 : decode cX8_add 32 = .ok (.aload_n 1, 1) := dk_43 (by decide +kernel)
theorem dX8_add_33 : decode cX8_add 33 = .ok (.getfield 13, 3) := dk_180 (by decide +kernel)
theorem dX8_add_36 : decode cX8_add 36 = .ok (.putfield 13, 3) := dk_181 (by decide +kernel)
theorem dX8_add_39 : decode cX8_add 39 = .ok (.goto 42, 3) := dk_167 (by decide +kernel)
theorem dX8_add_42 : decode cX8_add 42 = .ok (.aload_n 0, 1) := dk_42 (by decide +kernel)
theorem dX8_add_43 : decode cX8_add 43 = .ok (.aload_n 1, 1) := dk_43 (by decide +kernel)
theorem dX8_add_44 : decode cX8_add 44 = .ok (.invokevirtual 33, 3) := dk_182 (by decide +kernel)
theorem dX8_add_47 : decode cX8_add 47 = .ok (.ifCond .lt 16, 3) := dk_155 (by decide +kernel)
theorem dX8_add_50 : decode cX8_add 50 = .ok (.aload_n 0, 1) := dk_42 (by decide +kernel)
theorem dX8_add_51 : decode cX8_add 51 = .ok (.aload_n 0, 1) := dk_42 (by decide +kernel)
theorem dX8_add_52 : decode cX8_add 52 = .ok (.aload_n 1, 1) := dk_43 (by decide +kernel)
theorem dX8_add_53 : decode cX8_add 53 = .ok (.invokevirtual 37, 3) := dk_182 (by decide +kernel)
theorem dX8_add_56 : decode cX8_add 56 = .ok (.aload_n 0, 1) := dk_42 (by decide +kernel)
theorem dX8_add_57 : decode cX8_add 57 = .ok (.invokevirtual 41, 3) := dk_182 (by decide +kernel)
theorem dX8_add_60 : decode cX8_add 60 = .ok (.goto 21, 3) := dk_167 (by decide +kernel)
theorem dX8_add_63 : decode cX8_add 63 = .ok (.aload_n 0, 1) := dk_42 (by decide +kernel)
theorem dX8_add_64 : decode cX8_add 64 = .ok (.aload_n 1, 1) := dk_43 (by decide +kernel)
theorem dX8_add_65 : decode cX8_add 65 = .ok (.aload_n 0, 1) := dk_42 (by decide +kernel)
theorem dX8_add_66 : decode cX8_add 66 = .ok (.invokevirtual 37, 3) := dk_182 (by decide +kernel)
theorem dX8_add_69 : decode cX8_add 69 = .ok (.aload_n 0, 1) := dk_42 (by decide +kernel)
theorem dX8_add_70 : decode cX8_add 70 = .ok (.aload_n 1, 1) := dk_43 (by decide +kernel)
theorem dX8_add_71 : decode cX8_add 71 = .ok (.getfield 13, 3) := dk_180 (by decide +kernel)
theorem dX8_add_74 : decode cX8_add 74 = .ok (.putfield 13, 3) := dk_181 (by decide +kernel)
theorem dX8_add_77 : decode cX8_add 77 = .ok (.aload_n 0, 1) := dk_42 (by decide +kernel)
theorem dX8_add_78 : decode cX8_add 78 = .ok (.invokevirtual 41, 3) := dk_182 (by decide +kernel)
theorem dX8_add_81 : decode cX8_add 81 = .ok (.return_, 1) := dk_177 (by decide +kernel)
def wsMX8_add : List Cond := .code yX8_add cX8_add 2 none :: ([.fieldLink RX8 17 "OptimaWorks$Whole" "length" "I", .fieldLink RX8 13 "OptimaWorks$Whole" "below" "Z"] ++ wsX80 ++ (wsV RX8 29 RX8 yX8_addSize wsMX8_addSize) ++ (wsV RX8 33 RX8 yX8_compareSize wsMX8_compareSize) ++ (wsV RX8 37 RX8 yX8_takeSize wsMX8_takeSize) ++ (wsV RX8 41 RX8 yX8_trim wsMX8_trim))
theorem iwsMX8_add_in8 : ∀ w ∈ wsX80, w ∈ wsMX8_add := fun _ h => List.mem_cons_of_mem _ (List.mem_append_left _ (List.mem_append_left _ (List.mem_append_left _ (List.mem_append_left _ (List.mem_append_right _ h)))))
theorem gwsMX8_add_0 : GoodIn wsMX8_add (wsV RX8 29 RX8 yX8_addSize wsMX8_addSize) := goodIn_sub (fun _ h => List.mem_cons_of_mem _ (List.mem_append_left _ (List.mem_append_left _ (List.mem_append_left _ (List.mem_append_right _ h))))) (gdV (by decide +kernel) gdwsMX8_addSize)
theorem gwsMX8_add_1 : GoodIn wsMX8_add (wsV RX8 33 RX8 yX8_compareSize wsMX8_compareSize) := goodIn_sub (fun _ h => List.mem_cons_of_mem _ (List.mem_append_left _ (List.mem_append_left _ (List.mem_append_right _ h)))) (gdV (by decide +kernel) gdwsMX8_compareSize)
theorem gwsMX8_add_2 : GoodIn wsMX8_add (wsV RX8 37 RX8 yX8_takeSize wsMX8_takeSize) := goodIn_sub (fun _ h => List.mem_cons_of_mem _ (List.mem_append_left _ (List.mem_append_right _ h))) (gdV (by decide +kernel) gdwsMX8_takeSize)
theorem gwsMX8_add_3 : GoodIn wsMX8_add (wsV RX8 41 RX8 yX8_trim wsMX8_trim) := goodIn_sub (fun _ h => List.mem_cons_of_mem _ (List.mem_append_right _ h)) (gdV (by decide +kernel) gdwsMX8_trim)
theorem gdwsMX8_add : wsMX8_add.all goodWord = true := gdC rfl (gdA (gdA (gdA (gdA (gdA (by decide +kernel : ([.fieldLink RX8 17 "OptimaWorks$Whole" "length" "I", .fieldLink RX8 13 "OptimaWorks$Whole" "below" "Z"] : List Cond).all goodWord = true) gdwsX80) (gdV (by decide +kernel) gdwsMX8_addSize)) (gdV (by decide +kernel) gdwsMX8_compareSize)) (gdV (by decide +kernel) gdwsMX8_takeSize)) (gdV (by decide +kernel) gdwsMX8_trim))
set_option maxHeartbeats 4000000 in
set_option maxRecDepth 100000 in
/-- added -/
theorem m_X8_add (l : Launch) (dC : Nat → ClassId) (dI : Nat → Nat → Nat) (nW : Nat) (hw : Nat → Nat) (lw : Nat → Nat) (kw : ClassId) (wl : Nat → Int32) (wb : Nat → Int32) (wG : Nat → Nat → Int64) (tt : Nat) (ta : Nat) (b_wl : ∀ q : Nat, 0 ≤ (wl q).toInt ∧ (wl q).toInt ≤ 14) (b_wb : ∀ q : Nat, 0 ≤ (wb q).toInt ∧ (wb q).toInt ≤ 1) (htt : tt < nW) (hta : ta < nW) (sz : Nat) : Met l yX8_add wsMX8_add ({ frames := 2, cells := 0, slots := 0, locals := 40 }) (va_Pc [.ref (hw tt), .ref (hw ta)] (fun U => U.heap.size = sz ∧ va_P (dC, dI) vwCl (WW nW hw lw kw wl wb wG) U.heap ∧ va_K (dC, dI) vwCl (tW kw) U ∧ va_D (fun _ => True) (WW nW hw lw kw wl wb wG))) (va_Qv (fun (u : (Nat → Int32) × (Nat → Int32) × (Nat → Nat → Int64)) => (∀ q : Nat, 0 ≤ ((u.1) q).toInt ∧ ((u.1) q).toInt ≤ 14) ∧ (∀ q : Nat, 0 ≤ ((u.2.1) q).toInt ∧ ((u.2.1) q).toInt ≤ 1)) (fun (u : (Nat → Int32) × (Nat → Int32) × (Nat → Nat → Int64)) t => va_P (dC, dI) vwCl (WW nW hw lw kw (u.1) (u.2.1) (u.2.2)) t.heap ∧ va_D (va_A (WW nW hw lw kw wl wb wG) sz) (WW nW hw lw kw (u.1) (u.2.1) (u.2.2))) (va_A (WW nW hw lw kw wl wb wG) sz)) 0 0 (va_A (WW nW hw lw kw wl wb wG) sz) := by
  refine Met.ofW (cc := cX8_add) (maxL := 2) (ret := none) (by decide) rfl ?_
  intro p e s m args below meth c s₁ B hml hv
  obtain ⟨rfl, hsz, hP, hK, hD0⟩ := hv
  have hx := B.exec
  have hb := B.bytes
  have hr := B.returns
  have hts := atoms_spec (ws := wsMX8_add) B.pre
  have hown : s.vm.findClass RX8 = some m.cls := findClass_of_methodNamed B.named
  have hlocks := B.notSynchronized
  subst hsz
  have hD := hD0.self (sz := s.heap.size)
  generalize hAe : va_A (WW nW hw lw kw wl wb wG) s.heap.size = A at hD ⊢
  have hA : ∀ q : Nat, s.heap.size ≤ q → A q := fun q h => by rw [← hAe]; exact Or.inr h
  have hS : va_S A s.heap s.heap [] := va_S.rf
  have hl := lv_entry ([.ref (hw tt), .ref (hw ta)]) (n := 2) (Nat.le_of_ble_eq_true rfl)
  rw [lg_entry_eq]
  generalize (lg_sl ([.ref (hw tt), .ref (hw ta)]) ++ List.replicate (2 - (lg_sl ([.ref (hw tt), .ref (hw ta)])).length) Slot.unset).toArray = ls at hl ⊢
  have hl : lv_has ls 2 [(0, .ref (hw tt)), (1, .ref (hw ta))] := hl
  refine lv_aload_n hx hb dX8_add_0 rfl (lv_at hl 1 rfl) ?_
  refine va_get (D := (dC, dI)) (ci := 8) (v := .int (wl ta)) (C := RX8) (T := TX8) (N := 3) hx hb hts iwsMX8_add_in8 hown hK hP (ta) (WW_o (by omega)) rfl 1 (by decide) (hts (.fieldLink RX8 17 "OptimaWorks$Whole" "length" "I") (by decide +kernel)) (fun _ h9 => h9) rfl dX8_add_1 ?_
  have br1 := b_wl ta
  refine lv_if_ne (tgt := 8) hx hb dX8_add_4 (by decide) (fun c_4 => ?_) (fun c_4 => ?_)
  · have t_4 : (wl ta).toInt ≠ 0 := toI_ne c_4 rfl (by decide : (0 : Int32).toInt = 0)
    refine lv_aload_n hx hb dX8_add_8 rfl (lv_at hl 0 rfl) ?_
    refine va_get (D := (dC, dI)) (ci := 8) (v := .int (wl tt)) (C := RX8) (T := TX8) (N := 3) hx hb hts iwsMX8_add_in8 hown hK hP (tt) (WW_o (by omega)) rfl 1 (by decide) (hts (.fieldLink RX8 17 "OptimaWorks$Whole" "length" "I") (by decide +kernel)) (fun _ h9 => h9) rfl dX8_add_9 ?_
    have br9 := b_wl tt
    refine W.cut (pc := 81) (fun H locs ls stk => ∃ (wl_j2 : Nat → Int32) (wb_j2 : Nat → Int32) (wG_j2 : Nat → Nat → Int64), (∀ q : Nat, 0 ≤ (wl_j2 q).toInt ∧ (wl_j2 q).toInt ≤ 14) ∧ (∀ q : Nat, 0 ≤ (wb_j2 q).toInt ∧ (wb_j2 q).toInt ≤ 1) ∧  stk = [] ∧ va_P (dC, dI) vwCl (WW nW hw lw kw wl_j2 wb_j2 wG_j2) H ∧ va_D A (WW nW hw lw kw wl_j2 wb_j2 wG_j2) ∧ va_S A s.heap H locs ∧ lv_has ls 2 [(0, .ref (hw tt)), (1, .ref (hw ta))]) (fun join2 => ?_) ?_
    · refine lv_if_eq (tgt := 26) hx hb dX8_add_12 (by decide) (fun c_12 => ?_) (fun c_12 => ?_)
      · have t_12 : (wl tt).toInt = 0 := toI_eq c_12 rfl (by decide : (0 : Int32).toInt = 0)
        refine lv_aload_n hx hb dX8_add_26 rfl (lv_at hl 0 rfl) ?_
        refine lv_aload_n hx hb dX8_add_27 rfl (lv_at hl 1 rfl) ?_
        have hFc := allFree hD hS hA
        refine va_callv (va_runV (As := [.ref (hw ta)]) (rest := []) ⟨hx, hb, hml, hown, hts⟩ (m_X8_addSize l dC dI nW hw lw kw wl wb wG tt ta b_wl b_wb (by first | assumption | omega | (rw [iI_t (by omega) (by omega)]; omega) | decide) (by first | assumption | omega | (rw [iI_t (by omega) (by omega)]; omega) | decide) s.heap.size) (cwV 1 hts gwsMX8_add_0 rfl rfl rfl hd_yX8_addSize_RX8 (by decide +kernel)) (fz_pre (va_recv hK hP (ci := 8) (q0 := tt) rfl (WW_o (by omega))) hP hK hD) rfl rfl hl.1 rfl (lv_room (Nat.le_of_ble_eq_true rfl)) dX8_add_28 (by decide +kernel)) hS (fun q _ h => hFc q h) hFc (fun u t9_ H locs ht hvm hw9 hB9 hz1 hk1 hS => ?_)
        obtain ⟨wl_11, wG_11⟩ := u
        try dsimp only at hw9 hB9
        have b_wl_11 := hw9
        try dsimp only at b_wl_11
        have hP : va_P (dC, dI) vwCl (WW nW hw lw kw wl_11 wb wG_11) H := fz_P ht hB9.1
        have hD : va_D A (WW nW hw lw kw wl_11 wb wG_11) := hB9.2.weaken (fun _ q _ h => hFc q.1 h)
        refine lv_aload_n hx hb dX8_add_31 rfl (lv_at hl 0 rfl) ?_
        refine lv_aload_n hx hb dX8_add_32 rfl (lv_at hl 1 rfl) ?_
        refine va_get (D := (dC, dI)) (ci := 8) (v := .int (wb ta)) (C := RX8) (T := TX8) (N := 3) hx hb hts iwsMX8_add_in8 hown hK hP (ta) (WW_o (by omega)) rfl 2 (by decide) (hts (.fieldLink RX8 13 "OptimaWorks$Whole" "below" "Z") (by decide +kernel)) (fun _ h9 => h9) rfl dX8_add_33 ?_
        have br33 := b_wb ta
        refine va_put (D := (dC, dI)) (ci := 8) (v := .int (wb ta)) (ty := .boolean) (C := RX8) (T := TX8) (N := 3) hx hb hts iwsMX8_add_in8 tyX8 tyX8_ok nmX8 hown hK hP hD hS (tt) (WW_o (by omega)) rfl 2 (by decide) (hts (.fieldLink RX8 13 "OptimaWorks$Whole" "below" "Z") (by decide +kernel)) (fun _ h9 => h9) rfl (by decide +kernel) (by rcases z01 (x := (wb ta)) (by first | assumption | exact ⟨by omega, by omega⟩) with h9 | h9 <;> rw [h9] <;> rfl) (by rcases z01 (x := (wb ta)) (by first | assumption | exact ⟨by omega, by omega⟩) with h9 | h9 <;> rw [h9] <;> rfl) (Nat.le_of_ble_eq_true rfl) dX8_add_36 (fun H locs hP hD hS => ?_)
        obtain ⟨u12, hu12⟩ : ∃ f9, f9 = fT wb tt (wb ta) := ⟨_, rfl⟩
        have hP : va_P (dC, dI) vwCl (WW nW hw lw kw wl_11 u12 wG_11) H := by rw [hu12]; exact Eq.mp (congrArg (fun z9 => va_P (dC, dI) vwCl z9 H) (WW_sb (by omega) (wb ta))) hP
        have hD : va_D A (WW nW hw lw kw wl_11 u12 wG_11) := by rw [hu12]; exact Eq.mp (congrArg (fun z9 => va_D A z9) (WW_sb (by omega) (wb ta))) hD
        have b_u12 : ∀ q : Nat, 0 ≤ (u12 q).toInt ∧ (u12 q).toInt ≤ 1 := by rw [hu12]; exact fT_r b_wb (by first | assumption | exact ⟨by omega, by omega⟩)
        have q_u12 : (u12 tt).toInt = (wb ta).toInt := by rw [hu12, fT_eq]
        clear hu12
        refine lv_goto (tgt := 81) hx hb dX8_add_39 (by decide) ?_
        have hl : lv_has _ _ ([(0, .ref (hw tt)), (1, .ref (hw ta))]) := lv_sub hl [0, 1] rfl
        exact join2 _ _ _ _ ⟨wl_11, u12, wG_11, b_wl_11, b_u12, rfl, hP, hD, hS, hl⟩
      · have t_12 : ¬ (wl tt).toInt = 0 := toI_neq c_12 rfl (by decide : (0 : Int32).toInt = 0)
        refine lv_aload_n hx hb dX8_add_15 rfl (lv_at hl 0 rfl) ?_
        refine va_get (D := (dC, dI)) (ci := 8) (v := .int (wb tt)) (C := RX8) (T := TX8) (N := 3) hx hb hts iwsMX8_add_in8 hown hK hP (tt) (WW_o (by omega)) rfl 2 (by decide) (hts (.fieldLink RX8 13 "OptimaWorks$Whole" "below" "Z") (by decide +kernel)) (fun _ h9 => h9) rfl dX8_add_16 ?_
        have br16 := b_wb tt
        refine lv_aload_n hx hb dX8_add_19 rfl (lv_at hl 1 rfl) ?_
        refine va_get (D := (dC, dI)) (ci := 8) (v := .int (wb ta)) (C := RX8) (T := TX8) (N := 3) hx hb hts iwsMX8_add_in8 hown hK hP (ta) (WW_o (by omega)) rfl 2 (by decide) (hts (.fieldLink RX8 13 "OptimaWorks$Whole" "below" "Z") (by decide +kernel)) (fun _ h9 => h9) rfl dX8_add_20 ?_
        have br20 := b_wb ta
        refine lv_icmp_ne (tgt := 42) hx hb dX8_add_23 (by decide) (fun c_23 => ?_) (fun c_23 => ?_)
        · have t_23 : (wb tt).toInt ≠ (wb ta).toInt := toI_ne c_23 rfl rfl
          refine lv_aload_n hx hb dX8_add_42 rfl (lv_at hl 0 rfl) ?_
          refine lv_aload_n hx hb dX8_add_43 rfl (lv_at hl 1 rfl) ?_
          have hFc := allFree hD hS hA
          refine va_calli (va_runV (As := [.ref (hw ta)]) (rest := []) ⟨hx, hb, hml, hown, hts⟩ (m_X8_compareSize l dC dI nW hw lw kw wl wb wG tt ta b_wl b_wb (by first | assumption | omega | (rw [iI_t (by omega) (by omega)]; omega) | decide) (by first | assumption | omega | (rw [iI_t (by omega) (by omega)]; omega) | decide) s.heap.size) (cwV 1 hts gwsMX8_add_1 rfl rfl rfl hd_yX8_compareSize_RX8 (by decide +kernel)) (fz_pre (va_recv hK hP (ci := 8) (q0 := tt) rfl (WW_o (by omega))) hP hK hD) rfl rfl hl.1 rfl (lv_room (Nat.le_of_ble_eq_true rfl)) dX8_add_44 (by decide +kernel)) hS (fun q _ h => hFc q h) hFc (fun r13 u t9_ H locs ht hvm hw9 hB9 hz1 hk1 hS => ?_)
          have b_r13 := hw9
          try dsimp only at b_r13
          have hP : va_P (dC, dI) vwCl (WW nW hw lw kw wl wb wG) H := fz_P ht hB9.1
          have hD : va_D A (WW nW hw lw kw wl wb wG) := hB9.2.weaken (fun _ q _ h => hFc q.1 h)
          refine lv_if_lt (tgt := 63) hx hb dX8_add_47 (by decide) (fun c_47 => ?_) (fun c_47 => ?_)
          · have t_47 : r13.toInt < 0 := toI_lt c_47 rfl (by decide : (0 : Int32).toInt = 0)
            refine lv_aload_n hx hb dX8_add_63 rfl (lv_at hl 0 rfl) ?_
            refine lv_aload_n hx hb dX8_add_64 rfl (lv_at hl 1 rfl) ?_
            refine lv_aload_n hx hb dX8_add_65 rfl (lv_at hl 0 rfl) ?_
            have hFc := allFree hD hS hA
            refine va_callv (va_runV (As := [.ref (hw ta), .ref (hw tt)]) (rest := []) ⟨hx, hb, hml, hown, hts⟩ (m_X8_takeSize l dC dI nW hw lw kw wl wb wG tt ta tt b_wl b_wb (by first | assumption | omega | (rw [iI_t (by omega) (by omega)]; omega) | decide) (by first | assumption | omega | (rw [iI_t (by omega) (by omega)]; omega) | decide) (by first | assumption | omega | (rw [iI_t (by omega) (by omega)]; omega) | decide) H.size) (cwV 2 hts gwsMX8_add_2 rfl rfl rfl hd_yX8_takeSize_RX8 (by decide +kernel)) (fz_pre (va_recv hK hP (ci := 8) (q0 := tt) rfl (WW_o (by omega))) hP hK hD) rfl rfl hl.1 rfl (lv_room (Nat.le_of_ble_eq_true rfl)) dX8_add_66 (by decide +kernel)) hS (fun q _ h => hFc q h) hFc (fun u t9_ H locs ht hvm hw9 hB9 hz1 hk1 hS => ?_)
            obtain ⟨wl_14, wG_14⟩ := u
            try dsimp only at hw9 hB9
            have b_wl_14 := hw9
            try dsimp only at b_wl_14
            have hP : va_P (dC, dI) vwCl (WW nW hw lw kw wl_14 wb wG_14) H := fz_P ht hB9.1
            have hD : va_D A (WW nW hw lw kw wl_14 wb wG_14) := hB9.2.weaken (fun _ q _ h => hFc q.1 h)
            refine lv_aload_n hx hb dX8_add_69 rfl (lv_at hl 0 rfl) ?_
            refine lv_aload_n hx hb dX8_add_70 rfl (lv_at hl 1 rfl) ?_
            refine va_get (D := (dC, dI)) (ci := 8) (v := .int (wb ta)) (C := RX8) (T := TX8) (N := 3) hx hb hts iwsMX8_add_in8 hown hK hP (ta) (WW_o (by omega)) rfl 2 (by decide) (hts (.fieldLink RX8 13 "OptimaWorks$Whole" "below" "Z") (by decide +kernel)) (fun _ h9 => h9) rfl dX8_add_71 ?_
            have br71 := b_wb ta
            refine va_put (D := (dC, dI)) (ci := 8) (v := .int (wb ta)) (ty := .boolean) (C := RX8) (T := TX8) (N := 3) hx hb hts iwsMX8_add_in8 tyX8 tyX8_ok nmX8 hown hK hP hD hS (tt) (WW_o (by omega)) rfl 2 (by decide) (hts (.fieldLink RX8 13 "OptimaWorks$Whole" "below" "Z") (by decide +kernel)) (fun _ h9 => h9) rfl (by decide +kernel) (by rcases z01 (x := (wb ta)) (by first | assumption | exact ⟨by omega, by omega⟩) with h9 | h9 <;> rw [h9] <;> rfl) (by rcases z01 (x := (wb ta)) (by first | assumption | exact ⟨by omega, by omega⟩) with h9 | h9 <;> rw [h9] <;> rfl) (Nat.le_of_ble_eq_true rfl) dX8_add_74 (fun H locs hP hD hS => ?_)
            obtain ⟨u15, hu15⟩ : ∃ f9, f9 = fT wb tt (wb ta) := ⟨_, rfl⟩
            have hP : va_P (dC, dI) vwCl (WW nW hw lw kw wl_14 u15 wG_14) H := by rw [hu15]; exact Eq.mp (congrArg (fun z9 => va_P (dC, dI) vwCl z9 H) (WW_sb (by omega) (wb ta))) hP
            have hD : va_D A (WW nW hw lw kw wl_14 u15 wG_14) := by rw [hu15]; exact Eq.mp (congrArg (fun z9 => va_D A z9) (WW_sb (by omega) (wb ta))) hD
            have b_u15 : ∀ q : Nat, 0 ≤ (u15 q).toInt ∧ (u15 q).toInt ≤ 1 := by rw [hu15]; exact fT_r b_wb (by first | assumption | exact ⟨by omega, by omega⟩)
            have q_u15 : (u15 tt).toInt = (wb ta).toInt := by rw [hu15, fT_eq]
            clear hu15
            refine lv_aload_n hx hb dX8_add_77 rfl (lv_at hl 0 rfl) ?_
            have hFc := allFree hD hS hA
            refine va_callv (va_runV (As := []) (rest := []) ⟨hx, hb, hml, hown, hts⟩ (m_X8_trim l dC dI nW hw lw kw wl_14 u15 wG_14 tt b_wl_14 b_u15 (by first | assumption | omega | (rw [iI_t (by omega) (by omega)]; omega) | decide) H.size) (cwV 0 hts gwsMX8_add_3 rfl rfl rfl hd_yX8_trim_RX8 (by decide +kernel)) (fz_pre (va_recv hK hP (ci := 8) (q0 := tt) rfl (WW_o (by omega))) hP hK hD) rfl rfl hl.1 rfl (lv_room (Nat.le_of_ble_eq_true rfl)) dX8_add_78 (by decide +kernel)) hS (fun q _ h => hFc q h) hFc (fun u t9_ H locs ht hvm hw9 hB9 hz1 hk1 hS => ?_)
            obtain ⟨wl_16, wb_16⟩ := u
            try dsimp only at hw9 hB9
            obtain ⟨b_wl_16, b_wb_16⟩ := hw9
            have hP : va_P (dC, dI) vwCl (WW nW hw lw kw wl_16 wb_16 wG_14) H := fz_P ht hB9.1
            have hD : va_D A (WW nW hw lw kw wl_16 wb_16 wG_14) := hB9.2.weaken (fun _ q _ h => hFc q.1 h)
            have hl : lv_has _ _ ([(0, .ref (hw tt)), (1, .ref (hw ta))]) := lv_sub hl [0, 1] rfl
            exact join2 _ _ _ _ ⟨wl_16, wb_16, wG_14, b_wl_16, b_wb_16, rfl, hP, hD, hS, hl⟩
          · have t_47 : ¬ r13.toInt < 0 := toI_nlt c_47 rfl (by decide : (0 : Int32).toInt = 0)
            refine lv_aload_n hx hb dX8_add_50 rfl (lv_at hl 0 rfl) ?_
            refine lv_aload_n hx hb dX8_add_51 rfl (lv_at hl 0 rfl) ?_
            refine lv_aload_n hx hb dX8_add_52 rfl (lv_at hl 1 rfl) ?_
            have hFc := allFree hD hS hA
            refine va_callv (va_runV (As := [.ref (hw tt), .ref (hw ta)]) (rest := []) ⟨hx, hb, hml, hown, hts⟩ (m_X8_takeSize l dC dI nW hw lw kw wl wb wG tt tt ta b_wl b_wb (by first | assumption | omega | (rw [iI_t (by omega) (by omega)]; omega) | decide) (by first | assumption | omega | (rw [iI_t (by omega) (by omega)]; omega) | decide) (by first | assumption | omega | (rw [iI_t (by omega) (by omega)]; omega) | decide) H.size) (cwV 2 hts gwsMX8_add_2 rfl rfl rfl hd_yX8_takeSize_RX8 (by decide +kernel)) (fz_pre (va_recv hK hP (ci := 8) (q0 := tt) rfl (WW_o (by omega))) hP hK hD) rfl rfl hl.1 rfl (lv_room (Nat.le_of_ble_eq_true rfl)) dX8_add_53 (by decide +kernel)) hS (fun q _ h => hFc q h) hFc (fun u t9_ H locs ht hvm hw9 hB9 hz1 hk1 hS => ?_)
            obtain ⟨wl_17, wG_17⟩ := u
            try dsimp only at hw9 hB9
            have b_wl_17 := hw9
            try dsimp only at b_wl_17
            have hP : va_P (dC, dI) vwCl (WW nW hw lw kw wl_17 wb wG_17) H := fz_P ht hB9.1
            have hD : va_D A (WW nW hw lw kw wl_17 wb wG_17) := hB9.2.weaken (fun _ q _ h => hFc q.1 h)
            refine lv_aload_n hx hb dX8_add_56 rfl (lv_at hl 0 rfl) ?_
            have hFc := allFree hD hS hA
            refine va_callv (va_runV (As := []) (rest := []) ⟨hx, hb, hml, hown, hts⟩ (m_X8_trim l dC dI nW hw lw kw wl_17 wb wG_17 tt b_wl_17 b_wb (by first | assumption | omega | (rw [iI_t (by omega) (by omega)]; omega) | decide) H.size) (cwV 0 hts gwsMX8_add_3 rfl rfl rfl hd_yX8_trim_RX8 (by decide +kernel)) (fz_pre (va_recv hK hP (ci := 8) (q0 := tt) rfl (WW_o (by omega))) hP hK hD) rfl rfl hl.1 rfl (lv_room (Nat.le_of_ble_eq_true rfl)) dX8_add_57 (by decide +kernel)) hS (fun q _ h => hFc q h) hFc (fun u t9_ H locs ht hvm hw9 hB9 hz1 hk1 hS => ?_)
            obtain ⟨wl_18, wb_18⟩ := u
            try dsimp only at hw9 hB9
            obtain ⟨b_wl_18, b_wb_18⟩ := hw9
            have hP : va_P (dC, dI) vwCl (WW nW hw lw kw wl_18 wb_18 wG_17) H := fz_P ht hB9.1
            have hD : va_D A (WW nW hw lw kw wl_18 wb_18 wG_17) := hB9.2.weaken (fun _ q _ h => hFc q.1 h)
            refine lv_goto (tgt := 81) hx hb dX8_add_60 (by decide) ?_
            have hl : lv_has _ _ ([(0, .ref (hw tt)), (1, .ref (hw ta))]) := lv_sub hl [0, 1] rfl
            exact join2 _ _ _ _ ⟨wl_18, wb_18, wG_17, b_wl_18, b_wb_18, rfl, hP, hD, hS, hl⟩
        · have t_23 : (wb tt).toInt = (wb ta).toInt := toI_nne c_23 rfl rfl
          refine lv_aload_n hx hb dX8_add_26 rfl (lv_at hl 0 rfl) ?_
          refine lv_aload_n hx hb dX8_add_27 rfl (lv_at hl 1 rfl) ?_
          have hFc := allFree hD hS hA
          refine va_callv (va_runV (As := [.ref (hw ta)]) (rest := []) ⟨hx, hb, hml, hown, hts⟩ (m_X8_addSize l dC dI nW hw lw kw wl wb wG tt ta b_wl b_wb (by first | assumption | omega | (rw [iI_t (by omega) (by omega)]; omega) | decide) (by first | assumption | omega | (rw [iI_t (by omega) (by omega)]; omega) | decide) s.heap.size) (cwV 1 hts gwsMX8_add_0 rfl rfl rfl hd_yX8_addSize_RX8 (by decide +kernel)) (fz_pre (va_recv hK hP (ci := 8) (q0 := tt) rfl (WW_o (by omega))) hP hK hD) rfl rfl hl.1 rfl (lv_room (Nat.le_of_ble_eq_true rfl)) dX8_add_28 (by decide +kernel)) hS (fun q _ h => hFc q h) hFc (fun u t9_ H locs ht hvm hw9 hB9 hz1 hk1 hS => ?_)
          obtain ⟨wl_19, wG_19⟩ := u
          try dsimp only at hw9 hB9
          have b_wl_19 := hw9
          try dsimp only at b_wl_19
          have hP : va_P (dC, dI) vwCl (WW nW hw lw kw wl_19 wb wG_19) H := fz_P ht hB9.1
          have hD : va_D A (WW nW hw lw kw wl_19 wb wG_19) := hB9.2.weaken (fun _ q _ h => hFc q.1 h)
          refine lv_aload_n hx hb dX8_add_31 rfl (lv_at hl 0 rfl) ?_
          refine lv_aload_n hx hb dX8_add_32 rfl (lv_at hl 1 rfl) ?_
          refine va_get (D := (dC, dI)) (ci := 8) (v := .int (wb ta)) (C := RX8) (T := TX8) (N := 3) hx hb hts iwsMX8_add_in8 hown hK hP (ta) (WW_o (by omega)) rfl 2 (by decide) (hts (.fieldLink RX8 13 "OptimaWorks$Whole" "below" "Z") (by decide +kernel)) (fun _ h9 => h9) rfl dX8_add_33 ?_
          have br33 := b_wb ta
          refine va_put (D := (dC, dI)) (ci := 8) (v := .int (wb ta)) (ty := .boolean) (C := RX8) (T := TX8) (N := 3) hx hb hts iwsMX8_add_in8 tyX8 tyX8_ok nmX8 hown hK hP hD hS (tt) (WW_o (by omega)) rfl 2 (by decide) (hts (.fieldLink RX8 13 "OptimaWorks$Whole" "below" "Z") (by decide +kernel)) (fun _ h9 => h9) rfl (by decide +kernel) (by rcases z01 (x := (wb ta)) (by first | assumption | exact ⟨by omega, by omega⟩) with h9 | h9 <;> rw [h9] <;> rfl) (by rcases z01 (x := (wb ta)) (by first | assumption | exact ⟨by omega, by omega⟩) with h9 | h9 <;> rw [h9] <;> rfl) (Nat.le_of_ble_eq_true rfl) dX8_add_36 (fun H locs hP hD hS => ?_)
          obtain ⟨u20, hu20⟩ : ∃ f9, f9 = fT wb tt (wb ta) := ⟨_, rfl⟩
          have hP : va_P (dC, dI) vwCl (WW nW hw lw kw wl_19 u20 wG_19) H := by rw [hu20]; exact Eq.mp (congrArg (fun z9 => va_P (dC, dI) vwCl z9 H) (WW_sb (by omega) (wb ta))) hP
          have hD : va_D A (WW nW hw lw kw wl_19 u20 wG_19) := by rw [hu20]; exact Eq.mp (congrArg (fun z9 => va_D A z9) (WW_sb (by omega) (wb ta))) hD
          have b_u20 : ∀ q : Nat, 0 ≤ (u20 q).toInt ∧ (u20 q).toInt ≤ 1 := by rw [hu20]; exact fT_r b_wb (by first | assumption | exact ⟨by omega, by omega⟩)
          have q_u20 : (u20 tt).toInt = (wb ta).toInt := by rw [hu20, fT_eq]
          clear hu20
          refine lv_goto (tgt := 81) hx hb dX8_add_39 (by decide) ?_
          have hl : lv_has _ _ ([(0, .ref (hw tt)), (1, .ref (hw ta))]) := lv_sub hl [0, 1] rfl
          exact join2 _ _ _ _ ⟨wl_19, u20, wG_19, b_wl_19, b_u20, rfl, hP, hD, hS, hl⟩
    · rintro H locs ls stk ⟨wl_j2, wb_j2, wG_j2, b_wl_j2, b_wb_j2, rfl, hP, hD, hS, hl⟩
      refine W.widen (k := 0) (n := 0) (by decide +kernel) (by decide +kernel) ?_
      exact W.vret hx hb hr (fun t9_ ht hW => ⟨⟨(wl_j2, wb_j2, wG_j2), rfl, ⟨b_wl_j2, b_wb_j2⟩, by rw [ht]; exact hP, hD⟩, hS.F ht⟩) hS.2.2 dX8_add_81
  · have t_4 : (wl ta).toInt = 0 := toI_nne c_4 rfl (by decide : (0 : Int32).toInt = 0)
    refine W.widen (k := 0) (n := 0) (by decide +kernel) (by decide +kernel) ?_
    exact W.vret hx hb hr (fun t9_ ht hW => ⟨⟨(wl, wb, wG), rfl, ⟨b_wl, b_wb⟩, by rw [ht]; exact hP, hD⟩, hS.F ht⟩) hS.2.2 dX8_add_7

theorem dX4_makeRoom_0 : decode cX4_makeRoom 0 = .ok (.bipush 7, 2) := dk_16 (by decide +kernel)
theorem dX4_makeRoom_2 : decode cX4_makeRoom 2 = .ok (.iconst 2, 1) := dk_5 (by decide +kernel)
theorem dX4_makeRoom_3 : decode cX4_makeRoom 3 = .ok (.aload_n 0, 1) := dk_42 (by decide +kernel)
theorem dX4_makeRoom_4 : decode cX4_makeRoom 4 = .ok (.getfield 19, 3) := dk_180 (by decide +kernel)
theorem dX4_makeRoom_7 : decode cX4_makeRoom 7 = .ok (.getfield 39, 3) := dk_180 (by decide +kernel)
theorem dX4_makeRoom_10 : decode cX4_makeRoom 10 = .ok (.imul, 1) := dk_104 (by decide +kernel)
theorem dX4_makeRoom_11 : decode cX4_makeRoom 11 = .ok (.bipush 16, 2) := dk_16 (by decide +kernel)
theorem dX4_makeRoom_13 : decode cX4_makeRoom 13 = .ok (.iadd, 1) := dk_96 (by decide +kernel)
theorem dX4_makeRoom_14 : decode cX4_makeRoom 14 = .ok (.imul, 1) := dk_104 (by decide +kernel)
theorem dX4_makeRoom_15 : decode cX4_makeRoom 15 = .ok (.istore_n 1, 1) := dk_60 (by decide +kernel)
theorem dX4_makeRoom_16 : decode cX4_makeRoom 16 = .ok (.aload_n 0, 1) := dk_42 (by decide +kernel)
theorem dX4_makeRoom_17 : decode cX4_makeRoom 17 = .ok (.getfield 11, 3) := dk_180 (by decide +kernel)
theorem dX4_makeRoom_20 : decode cX4_makeRoom 20 = .ok (.arraylength, 1) := dk_190 (by decide +kernel)
theorem dX4_makeRoom_21 : decode cX4_makeRoom 21 = .ok (.iload_n 1, 1) := dk_27 (by decide +kernel)
theorem dX4_makeRoom_22 : decode cX4_makeRoom 22 = .ok (.if_icmp .ge 20, 3) := dk_162 (by decide +kernel)
theorem dX4_makeRoom_25 : decode cX4_makeRoom 25 = .ok (.aload_n 0, 1) := dk_42 (by decide +kernel)
theorem dX4_makeRoom_26 : decode cX4_makeRoom 26 = .ok (.iload_n 1, 1) := dk_27 (by decide +kernel)
theorem dX4_makeRoom_27 : decode cX4_makeRoom 27 = .ok (.iconst 2, 1) := dk_5 (by decide +kernel)
theorem dX4_makeRoom_28 : decode cX4_makeRoom 28 = .ok (.aload_n 0, 1) := dk_42 (by decide +kernel)
theorem dX4_makeRoom_29 : decode cX4_makeRoom 29 = .ok (.getfield 11, 3) := dk_180 (by decide +kernel)
theorem dX4_makeRoom_32 : decode cX4_makeRoom 32 = .ok (.arraylength, 1) := dk_190 (by decide +kernel)
theorem dX4_makeRoom_33 : decode cX4_makeRoom 33 = .ok (.imul, 1) := dk_104 (by decide +kernel)
theorem dX4_makeRoom_34 : decode cX4_makeRoom 34 = .ok (.invokestatic 97, 3) := dk_184 (by decide +kernel)
theorem dX4_makeRoom_37 : decode cX4_makeRoom 37 = .ok (.newarray .int, 2) := by decide +kernel
theorem dX4_makeRoom_39 : decode cX4_makeRoom 39 = .ok (.putfield 11, 3) := dk_181 (by decide +kernel)
theorem dX4_makeRoom_42 : decode cX4_makeRoom 42 = .ok (.return_, 1) := dk_177 (by decide +kernel)
def wsMX4_makeRoom : List Cond := .code yX4_makeRoom cX4_makeRoom 2 none :: ([.fieldLink RX4 19 "OptimaWorks$Reader" "words" "LOptimaWorks$Words;", .fieldLink RX4 39 "OptimaWorks$Words" "length" "I", .fieldLink RX4 11 "OptimaWorks$Reader" "tree" "[I", .methodLink RX4 97 Lib.Math.max.name, .static Lib.Math.max.name, .initialized "java/lang/Math", .code Lib.Math.max.name Lib.Math.max.code 2 (some .int), .arrayClass .int] ++ wsX40 ++ wsX90)
theorem iwsMX4_makeRoom_in4 : ∀ w ∈ wsX40, w ∈ wsMX4_makeRoom := fun _ h => List.mem_cons_of_mem _ (List.mem_append_left _ (List.mem_append_right _ h))
theorem iwsMX4_makeRoom_in9 : ∀ w ∈ wsX90, w ∈ wsMX4_makeRoom := fun _ h => List.mem_cons_of_mem _ (List.mem_append_right _ h)
theorem gdwsMX4_makeRoom : wsMX4_makeRoom.all goodWord = true := gdC rfl (gdA (gdA (by decide +kernel : ([.fieldLink RX4 19 "OptimaWorks$Reader" "words" "LOptimaWorks$Words;", .fieldLink RX4 39 "OptimaWorks$Words" "length" "I", .fieldLink RX4 11 "OptimaWorks$Reader" "tree" "[I", .methodLink RX4 97 Lib.Math.max.name, .static Lib.Math.max.name, .initialized "java/lang/Math", .code Lib.Math.max.name Lib.Math.max.code 2 (some .int), .arrayClass .int] : List Cond).all goodWord = true) gdwsX40) gdwsX90)
set_option maxHeartbeats 4000000 in
set_option maxRecDepth 100000 in
/-- room for the tree -/
theorem m_X4_makeRoom (l : Launch) (dC : Nat → ClassId) (dI : Nat → Nat → Nat) (hJ : Nat → Nat) (aJ : Nat → Nat) (kJ : Nat → ClassId) (hT : Nat → Nat) (hM : Nat → Nat) (hL : Nat → Nat) (iJ_used : Int32) (iJ_depth : Int32) (jJ_ownName : Int64) (gJ_binder : Nat → Int64) (iJ_binders : Int32) (iJ_firstSet : Int32) (iJ_secondSet : Int32) (hF : Nat → Nat) (aF : Nat → Nat) (kF : Nat → ClassId) (dF_tree : Nat) (nF_tree : Nat) (fF_tree : Nat → Int32) (aT : Nat → Nat) (kT : Nat → ClassId) (fT_tape : Nat → Int32) (dT_tape : Nat) (nT_tape : Nat) (iT_length : Int32) (iT_fault : Int32) (iT_place : Int32) (iT_kind : Int32) (iT_at : Int32) (iT_number : Int32) (jT_name : Int64) (iT_next : Int32) (b_iJ_used : 0 ≤ iJ_used.toInt ∧ iJ_used.toInt ≤ 72200) (b_iJ_depth : 0 ≤ iJ_depth.toInt ∧ iJ_depth.toInt ≤ 25) (b_iJ_binders : 0 ≤ iJ_binders.toInt ∧ iJ_binders.toInt ≤ 64) (b_iJ_firstSet : (-1) ≤ iJ_firstSet.toInt ∧ iJ_firstSet.toInt ≤ 39) (b_iJ_secondSet : (-1) ≤ iJ_secondSet.toInt ∧ iJ_secondSet.toInt ≤ 39) (b_nF_tree : 7 ≤ nF_tree ∧ nF_tree ≤ 72200) (b_fT_tape : ∀ q : Nat, (-128) ≤ (fT_tape q).toInt ∧ (fT_tape q).toInt ≤ 127) (b_nT_tape : 64 ≤ nT_tape ∧ nT_tape ≤ 2560) (b_iT_length : 0 ≤ iT_length.toInt ∧ iT_length.toInt ≤ 1280) (b_iT_at : 0 ≤ iT_at.toInt ∧ iT_at.toInt ≤ 1282) (b_iT_number : 0 ≤ iT_number.toInt ∧ iT_number.toInt ≤ 999999) (b_iT_next : 0 ≤ iT_next.toInt ∧ iT_next.toInt ≤ 1282) (b_len : iT_length.toInt ≤ ((nT_tape : Nat) : Int)) (sz : Nat) : Met l yX4_makeRoom wsMX4_makeRoom ({ frames := 1, cells := 9027, slots := 288800, locals := 14 }) (va_Pc [.ref (hJ 0)] (fun U => U.heap.size = sz ∧ va_P (dC, dI) vwCl (WJ hJ aJ kJ hT hM hL (.ref dF_tree) iJ_used iJ_depth jJ_ownName gJ_binder iJ_binders iJ_firstSet iJ_secondSet ++ (WF hF aF kF dF_tree nF_tree fF_tree ++ (WT hT aT kT fT_tape dT_tape nT_tape iT_length iT_fault iT_place iT_kind iT_at iT_number jT_name iT_next))) U.heap ∧ va_K (dC, dI) vwCl (tJ kJ ++ (tF kF ++ (tT kT))) U ∧ va_D (fun _ => True) (WJ hJ aJ kJ hT hM hL (.ref dF_tree) iJ_used iJ_depth jJ_ownName gJ_binder iJ_binders iJ_firstSet iJ_secondSet ++ (WF hF aF kF dF_tree nF_tree fF_tree ++ (WT hT aT kT fT_tape dT_tape nT_tape iT_length iT_fault iT_place iT_kind iT_at iT_number jT_name iT_next))))) (va_Qv (fun (u : (Nat) × (Nat) × (Nat → Int32)) => (7 ≤ (u.2.1) ∧ (u.2.1) ≤ 72200) ∧ (nF_tree ≤ (u.2.1)) ∧ (7 * (2 * iT_length.toInt + 16) ≤ (((u.2.1) : Nat) : Int))) (fun (u : (Nat) × (Nat) × (Nat → Int32)) t => va_P (dC, dI) vwCl (WJ hJ aJ kJ hT hM hL (.ref (u.1)) iJ_used iJ_depth jJ_ownName gJ_binder iJ_binders iJ_firstSet iJ_secondSet ++ (WF hF aF kF (u.1) (u.2.1) (u.2.2) ++ (WT hT aT kT fT_tape dT_tape nT_tape iT_length iT_fault iT_place iT_kind iT_at iT_number jT_name iT_next))) t.heap ∧ va_D (va_A (WJ hJ aJ kJ hT hM hL (.ref dF_tree) iJ_used iJ_depth jJ_ownName gJ_binder iJ_binders iJ_firstSet iJ_secondSet ++ (WF hF aF kF dF_tree nF_tree fF_tree ++ (WT hT aT kT fT_tape dT_tape nT_tape iT_length iT_fault iT_place iT_kind iT_at iT_number jT_name iT_next))) sz) (WJ hJ aJ kJ hT hM hL (.ref (u.1)) iJ_used iJ_depth jJ_ownName gJ_binder iJ_binders iJ_firstSet iJ_secondSet ++ (WF hF aF kF (u.1) (u.2.1) (u.2.2) ++ (WT hT aT kT fT_tape dT_tape nT_tape iT_length iT_fault iT_place iT_kind iT_at iT_number jT_name iT_next))) ∧ t.heap.size + (nF_tree / 8) ≤ sz + ((u.2.1) / 8) ∧ nS sz t.heap + (2 * nF_tree) ≤ (2 * (u.2.1))) (va_A (WJ hJ aJ kJ hT hM hL (.ref dF_tree) iJ_used iJ_depth jJ_ownName gJ_binder iJ_binders iJ_firstSet iJ_secondSet ++ (WF hF aF kF dF_tree nF_tree fF_tree ++ (WT hT aT kT fT_tape dT_tape nT_tape iT_length iT_fault iT_place iT_kind iT_at iT_number jT_name iT_next))) sz)) 9027 288800 (va_A (WJ hJ aJ kJ hT hM hL (.ref dF_tree) iJ_used iJ_depth jJ_ownName gJ_binder iJ_binders iJ_firstSet iJ_secondSet ++ (WF hF aF kF dF_tree nF_tree fF_tree ++ (WT hT aT kT fT_tape dT_tape nT_tape iT_length iT_fault iT_place iT_kind iT_at iT_number jT_name iT_next))) sz) := by
  refine Met.ofW (cc := cX4_makeRoom) (maxL := 2) (ret := none) (by decide) rfl ?_
  intro p e s m args below meth c s₁ B hml hv
  obtain ⟨rfl, hsz, hP, hK, hD0⟩ := hv
  have hx := B.exec
  have hb := B.bytes
  have hr := B.returns
  have hts := atoms_spec (ws := wsMX4_makeRoom) B.pre
  have hown : s.vm.findClass RX4 = some m.cls := findClass_of_methodNamed B.named
  have hlocks := B.notSynchronized
  subst hsz
  have hD := hD0.self (sz := s.heap.size)
  generalize hAe : va_A (WJ hJ aJ kJ hT hM hL (.ref dF_tree) iJ_used iJ_depth jJ_ownName gJ_binder iJ_binders iJ_firstSet iJ_secondSet ++ (WF hF aF kF dF_tree nF_tree fF_tree ++ (WT hT aT kT fT_tape dT_tape nT_tape iT_length iT_fault iT_place iT_kind iT_at iT_number jT_name iT_next))) s.heap.size = A at hD ⊢
  have hA : ∀ q : Nat, s.heap.size ≤ q → A q := fun q h => by rw [← hAe]; exact Or.inr h
  have hS : va_S A s.heap s.heap [] := va_S.rf
  have hl := lv_entry ([.ref (hJ 0)]) (n := 2) (Nat.le_of_ble_eq_true rfl)
  rw [lg_entry_eq]
  generalize (lg_sl ([.ref (hJ 0)]) ++ List.replicate (2 - (lg_sl ([.ref (hJ 0)])).length) Slot.unset).toArray = ls at hl ⊢
  have hl : lv_has ls 2 [(0, .ref (hJ 0))] := hl
  refine W.widen (k := (nF_tree / 8 - (nF_tree / 8))) (n := (2 * nF_tree - (2 * nF_tree))) (Nat.zero_le _) (Nat.zero_le _) ?_
  refine lv_bipush (v := 7) hx hb dX4_makeRoom_0 (by decide) ?_
  refine lv_iconst (v := 2) hx hb dX4_makeRoom_2 (by decide) ?_
  refine lv_aload_n hx hb dX4_makeRoom_3 rfl (lv_at hl 0 rfl) ?_
  refine va_get (D := (dC, dI)) (ci := 4) (v := .ref (hT 0)) (C := RX4) (T := TX4) (N := 11) hx hb hts iwsMX4_makeRoom_in4 hown hK hP 0 rfl rfl 0 (by decide) (hts (.fieldLink RX4 19 "OptimaWorks$Reader" "words" "LOptimaWorks$Words;") (by decide +kernel)) (fun _ h9 => h9) rfl dX4_makeRoom_4 ?_
  refine va_get (D := (dC, dI)) (ci := 9) (v := .int iT_length) (C := RX9) (T := TX9) (N := 9) hx hb hts iwsMX4_makeRoom_in9 hown hK hP 3 rfl rfl 1 (by decide) (hts (.fieldLink RX4 39 "OptimaWorks$Words" "length" "I") (by decide +kernel)) (fun _ h9 => h9) rfl dX4_makeRoom_7 ?_
  refine lv_imul hx hb dX4_makeRoom_10 ?_
  refine lv_topi (fun y1 hy1 => ?_)
  obtain rfl : (iI (2 * iT_length.toInt)) = y1 := (hy1.trans (iI_mul2 (by decide : (2 : Int32) = iI 2) (iI_of _))).symm
  refine lv_bipush (v := 16) hx hb dX4_makeRoom_11 (by decide) ?_
  refine lv_iadd hx hb dX4_makeRoom_13 ?_
  refine lv_topi (fun y2 hy2 => ?_)
  obtain rfl : (iI ((2 * iT_length.toInt) + 16)) = y2 := (hy2.trans (iI_add2 rfl (by decide : (16 : Int32) = iI 16))).symm
  refine lv_imul hx hb dX4_makeRoom_14 ?_
  refine lv_topi (fun y3 hy3 => ?_)
  obtain rfl : (iI (7 * ((2 * iT_length.toInt) + 16))) = y3 := (hy3.trans (iI_mul2 (by decide : (7 : Int32) = iI 7) rfl)).symm
  refine lv_istore_n hx hb dX4_makeRoom_15 rfl hl (by decide) rfl (fun ls (hl : lv_has ls _ ([(1, .int (iI (7 * ((2 * iT_length.toInt) + 16)))), (0, .ref (hJ 0))])) => ?_)
  refine lv_aload_n hx hb dX4_makeRoom_16 rfl (lv_at hl 1 rfl) ?_
  refine va_get (D := (dC, dI)) (ci := 4) (v := .ref dF_tree) (C := RX4) (T := TX4) (N := 11) hx hb hts iwsMX4_makeRoom_in4 hown hK hP 0 rfl rfl 3 (by decide) (hts (.fieldLink RX4 11 "OptimaWorks$Reader" "tree" "[I") (by decide +kernel)) (fun _ h9 => h9) rfl dX4_makeRoom_17 ?_
  refine va_alen hx hb hK hP 2 1 rfl rfl (v := (iI ((nF_tree : Nat) : Int))) (iI_nat _) dX4_makeRoom_20 ?_
  refine lv_iload_n hx hb dX4_makeRoom_21 rfl (lv_at hl 0 rfl) ?_
  refine W.known (fun hzk hnk => ?_)
  refine W.widen (k := 9025) (n := 144400) (by omega) (by omega) ?_
  refine W.cut (pc := 42) (fun H locs ls stk => ∃ (dF_tree_j2 : Nat) (nF_tree_j2 : Nat) (fF_tree_j2 : Nat → Int32), (7 ≤ nF_tree_j2 ∧ nF_tree_j2 ≤ 72200) ∧ (7 * (2 * iT_length.toInt + 16) ≤ ((nF_tree_j2 : Nat) : Int)) ∧ (nF_tree ≤ nF_tree_j2) ∧ (H.size + (nF_tree / 8) ≤ s.heap.size + (nF_tree_j2 / 8) ∧ nS s.heap.size H + (2 * nF_tree) ≤ (2 * nF_tree_j2)) ∧  stk = [] ∧ va_P (dC, dI) vwCl (WJ hJ aJ kJ hT hM hL (.ref dF_tree_j2) iJ_used iJ_depth jJ_ownName gJ_binder iJ_binders iJ_firstSet iJ_secondSet ++ (WF hF aF kF dF_tree_j2 nF_tree_j2 fF_tree_j2 ++ (WT hT aT kT fT_tape dT_tape nT_tape iT_length iT_fault iT_place iT_kind iT_at iT_number jT_name iT_next))) H ∧ va_D A (WJ hJ aJ kJ hT hM hL (.ref dF_tree_j2) iJ_used iJ_depth jJ_ownName gJ_binder iJ_binders iJ_firstSet iJ_secondSet ++ (WF hF aF kF dF_tree_j2 nF_tree_j2 fF_tree_j2 ++ (WT hT aT kT fT_tape dT_tape nT_tape iT_length iT_fault iT_place iT_kind iT_at iT_number jT_name iT_next))) ∧ va_S A s.heap H locs ∧ lv_has ls 2 [(1, .int (iI (7 * ((2 * iT_length.toInt) + 16)))), (0, .ref (hJ 0))]) (fun join2 => ?_) ?_
  · refine W.tight (cells2 := (nF_tree / 8 - (nF_tree / 8))) (slots2 := (2 * nF_tree - (2 * nF_tree))) hzk hnk ?_
    refine lv_icmp_ge (tgt := 42) hx hb dX4_makeRoom_22 (by decide) (fun c_22 => ?_) (fun c_22 => ?_)
    · first | (have t_22 : ((nF_tree : Nat) : Int) ≥ (7 * ((2 * iT_length.toInt) + 16)) := toI_ge c_22 (iI_t (by omega) (by omega)) (iI_t (Int.le_trans (by decide) (Int.mul_le_mul_of_nonneg_left (Int.add_le_add (Int.mul_le_mul_of_nonneg_left (b_iT_length.1) (by decide)) (Int.le_refl _)) (by decide))) (Int.le_trans (Int.mul_le_mul_of_nonneg_left (Int.add_le_add (Int.mul_le_mul_of_nonneg_left (b_iT_length.2) (by decide)) (Int.le_refl _)) (by decide)) (by decide)))) | skip
      have hl : lv_has _ _ ([(1, .int (iI (7 * ((2 * iT_length.toInt) + 16)))), (0, .ref (hJ 0))]) := lv_sub hl [0, 1] rfl
      refine W.known (fun hza hna => ?_)
      refine W.widen (k := 9025) (n := 144400) (by omega) (by omega) ?_
      exact join2 _ _ _ _ ⟨dF_tree, nF_tree, fF_tree, (by first | exact b_nF_tree | assumption | exact ⟨by omega, by omega⟩), (show 7 * (2 * iT_length.toInt + 16) ≤ ((nF_tree : Nat) : Int) from by omega), (show nF_tree ≤ nF_tree from by omega), ⟨by omega, by omega⟩, rfl, hP, hD, hS, hl⟩
    · first | (have t_22 : ¬ ((nF_tree : Nat) : Int) ≥ (7 * ((2 * iT_length.toInt) + 16)) := toI_nge c_22 (iI_t (by omega) (by omega)) (iI_t (Int.le_trans (by decide) (Int.mul_le_mul_of_nonneg_left (Int.add_le_add (Int.mul_le_mul_of_nonneg_left (b_iT_length.1) (by decide)) (Int.le_refl _)) (by decide))) (Int.le_trans (Int.mul_le_mul_of_nonneg_left (Int.add_le_add (Int.mul_le_mul_of_nonneg_left (b_iT_length.2) (by decide)) (Int.le_refl _)) (by decide)) (by decide)))) | skip
      refine lv_aload_n hx hb dX4_makeRoom_25 rfl (lv_at hl 1 rfl) ?_
      refine lv_iload_n hx hb dX4_makeRoom_26 rfl (lv_at hl 0 rfl) ?_
      refine lv_iconst (v := 2) hx hb dX4_makeRoom_27 (by decide) ?_
      refine lv_aload_n hx hb dX4_makeRoom_28 rfl (lv_at hl 1 rfl) ?_
      refine va_get (D := (dC, dI)) (ci := 4) (v := .ref dF_tree) (C := RX4) (T := TX4) (N := 11) hx hb hts iwsMX4_makeRoom_in4 hown hK hP 0 rfl rfl 3 (by decide) (hts (.fieldLink RX4 11 "OptimaWorks$Reader" "tree" "[I") (by decide +kernel)) (fun _ h9 => h9) rfl dX4_makeRoom_29 ?_
      refine va_alen hx hb hK hP 2 1 rfl rfl (v := (iI ((nF_tree : Nat) : Int))) (iI_nat _) dX4_makeRoom_32 ?_
      refine lv_imul hx hb dX4_makeRoom_33 ?_
      refine lv_topi (fun y7 hy7 => ?_)
      obtain rfl : (iI (2 * ((nF_tree : Nat) : Int))) = y7 := (hy7.trans (iI_mul2 (by decide : (2 : Int32) = iI 2) rfl)).symm
      refine va_mmax hx hb (by rw [hml]; exact hl.1.symm) hown (hts (.methodLink RX4 97 Lib.Math.max.name) (by decide +kernel)) (hts (.static Lib.Math.max.name) (by decide +kernel)) (hts (.initialized "java/lang/Math") (by decide +kernel)) (hts (.code Lib.Math.max.name Lib.Math.max.code 2 (some .int)) (by decide +kernel)) (by (dsimp only [headSpec] <;> omega)) (Nat.le_of_ble_eq_true rfl) (by (dsimp only [headSpec] <;> omega)) (by (dsimp only [headSpec] <;> omega)) dX4_makeRoom_34 ?_
      refine lv_topi (fun v8 hv8 => ?_)
      first | (have b_v8 : ((7 * ((2 * iT_length.toInt) + 16)) ≤ v8.toInt ∧ (2 * ((nF_tree : Nat) : Int)) ≤ v8.toInt) ∧ (v8.toInt = (7 * ((2 * iT_length.toInt) + 16)) ∨ v8.toInt = (2 * ((nF_tree : Nat) : Int))) := by rw [hv8]; exact max_t (iI_t (Int.le_trans (by decide) (Int.mul_le_mul_of_nonneg_left (Int.add_le_add (Int.mul_le_mul_of_nonneg_left (b_iT_length.1) (by decide)) (Int.le_refl _)) (by decide))) (Int.le_trans (Int.mul_le_mul_of_nonneg_left (Int.add_le_add (Int.mul_le_mul_of_nonneg_left (b_iT_length.2) (by decide)) (Int.le_refl _)) (by decide)) (by decide))) (iI_t (by omega) (by omega))) | skip
      clear hv8
      obtain ⟨nn9, hnn9⟩ : ∃ k9 : Nat, (k9 : Int) = v8.toInt := ⟨(v8.toInt).toNat, by omega⟩
      refine va_newa (atype := .int) (ty := .int) (N' := nn9) (a0 := (nn9, .inl (fun _ => 0))) hx hb (hts (.arrayClass .int) (by decide +kernel)) rfl hK hP hD hS hA (fun _ => rfl) (nn_i rfl (by omega)) (clampN rfl hnn9) (by show nn9 * 4 ≤ 536870912; omega) (by (dsimp only [headSpec] <;> omega)) (by (dsimp only [headSpec] <;> omega)) dX4_makeRoom_37 (fun qn9 cA H hKn hP hD hS => ?_)
      obtain rfl : cA = kF 0 := hKn.cls (i := 1) (j := 3) rfl rfl (by simp)
      clear hKn
      have hP : va_P (dC, dI) vwCl ((WJ hJ aJ kJ hT hM hL (.ref dF_tree) iJ_used iJ_depth jJ_ownName gJ_binder iJ_binders iJ_firstSet iJ_secondSet ++ (WF hF aF kF dF_tree nF_tree fF_tree ++ (WT hT aT kT fT_tape dT_tape nT_tape iT_length iT_fault iT_place iT_kind iT_at iT_number jT_name iT_next))) ++ [(qn9, .inl (kF 0, nn9, .inl (fun _ => 0)))]) H := hP
      have hD : va_D A ((WJ hJ aJ kJ hT hM hL (.ref dF_tree) iJ_used iJ_depth jJ_ownName gJ_binder iJ_binders iJ_firstSet iJ_secondSet ++ (WF hF aF kF dF_tree nF_tree fF_tree ++ (WT hT aT kT fT_tape dT_tape nT_tape iT_length iT_fault iT_place iT_kind iT_at iT_number jT_name iT_next))) ++ [(qn9, .inl (kF 0, nn9, .inl (fun _ => 0)))]) := hD
      refine va_put (D := (dC, dI)) (ci := 4) (v := .ref qn9) (ty := .array .int) (C := RX4) (T := TX4) (N := 11) hx hb hts iwsMX4_makeRoom_in4 tyX4 tyX4_ok nmX4 hown hK hP hD hS 0 rfl rfl 3 (by decide) (hts (.fieldLink RX4 11 "OptimaWorks$Reader" "tree" "[I") (by decide +kernel)) (fun _ h9 => h9) rfl (by decide +kernel) rfl rfl (Nat.le_of_ble_eq_true rfl) dX4_makeRoom_39 (fun H locs hP hD hS => ?_)
      have hP : va_P (dC, dI) vwCl (WJ hJ aJ kJ hT hM hL (.ref qn9) iJ_used iJ_depth jJ_ownName gJ_binder iJ_binders iJ_firstSet iJ_secondSet ++ (WF hF aF kF qn9 nn9 (fun _ => 0) ++ (WT hT aT kT fT_tape dT_tape nT_tape iT_length iT_fault iT_place iT_kind iT_at iT_number jT_name iT_next))) _ := hP.sub [0, 1, 5, 3, 4] rfl
      have hD : va_D _ (WJ hJ aJ kJ hT hM hL (.ref qn9) iJ_used iJ_depth jJ_ownName gJ_binder iJ_binders iJ_firstSet iJ_secondSet ++ (WF hF aF kF qn9 nn9 (fun _ => 0) ++ (WT hT aT kT fT_tape dT_tape nT_tape iT_length iT_fault iT_place iT_kind iT_at iT_number jT_name iT_next))) := hD.sub [0, 1, 5, 3, 4] (by decide) rfl
      have hP : va_P (dC, dI) vwCl (WJ hJ aJ kJ hT hM hL (.ref qn9) iJ_used iJ_depth jJ_ownName gJ_binder iJ_binders iJ_firstSet iJ_secondSet ++ (WF hF aF kF qn9 nn9 (fun _ => 0) ++ (WT hT aT kT fT_tape dT_tape nT_tape iT_length iT_fault iT_place iT_kind iT_at iT_number jT_name iT_next))) H := hP
      have hD : va_D A (WJ hJ aJ kJ hT hM hL (.ref qn9) iJ_used iJ_depth jJ_ownName gJ_binder iJ_binders iJ_firstSet iJ_secondSet ++ (WF hF aF kF qn9 nn9 (fun _ => 0) ++ (WT hT aT kT fT_tape dT_tape nT_tape iT_length iT_fault iT_place iT_kind iT_at iT_number jT_name iT_next))) := hD
      refine W.widen (k := (nn9 / 8 - (nF_tree / 8))) (n := (2 * nn9 - (2 * nF_tree))) (by omega) (by omega) ?_
      have hl : lv_has _ _ ([(1, .int (iI (7 * ((2 * iT_length.toInt) + 16)))), (0, .ref (hJ 0))]) := lv_sub hl [0, 1] rfl
      refine W.known (fun hza hna => ?_)
      refine W.widen (k := 9025) (n := 144400) (by omega) (by omega) ?_
      exact join2 _ _ _ _ ⟨qn9, nn9, (fun _ => 0), (by first | exact b_nn9 | assumption | exact ⟨by omega, by omega⟩), (show 7 * (2 * iT_length.toInt + 16) ≤ ((nn9 : Nat) : Int) from by omega), (show nF_tree ≤ nn9 from by omega), ⟨by omega, by omega⟩, rfl, hP, hD, hS, hl⟩
  · rintro H locs ls stk ⟨dF_tree_j2, nF_tree_j2, fF_tree_j2, b_nF_tree_j2, hjr, hgm0_j2, ⟨hzj, hnj⟩, rfl, hP, hD, hS, hl⟩
    refine W.tight (cells2 := (nF_tree_j2 / 8 - (nF_tree / 8))) (slots2 := (2 * nF_tree_j2 - (2 * nF_tree))) (tg1 hzj hS.1) (tg2 hnj) ?_
    refine W.known (fun hz9 hn9 => ?_)
    refine W.widen (k := 9027) (n := 288800) (by omega) (by omega) ?_
    exact W.vret hx hb hr (fun t9_ ht hW => ⟨⟨(dF_tree_j2, nF_tree_j2, fF_tree_j2), rfl, ⟨(by (try dsimp only); exact (by first | exact b_nF_tree_j2 | assumption | exact ⟨by omega, by omega⟩)), (by (try dsimp only); omega), (by (try dsimp only); first | omega | assumption)⟩, by rw [ht]; exact hP, hD, by rw [ht]; (try dsimp only); omega, by rw [ht]; (try dsimp only); omega⟩, hS.F ht⟩) hS.2.2 dX4_makeRoom_42
theorem dX10_begin_0 : decode cX10_begin 0 = .ok (.aload_n 0, 1) := dk_42 (by decide +kernel)
theorem dX10_begin_1 : decode cX10_begin 1 = .ok (.aload_n 1, 1) := dk_43 (by decide +kernel)
theorem dX10_begin_2 : decode cX10_begin 2 = .ok (.putfield 55, 3) := dk_181 (by decide +kernel)
theorem dX10_begin_5 : decode cX10_begin 5 = .ok (.aload_n 0, 1) := dk_42 (by decide +kernel)
theorem dX10_begin_6 : decode cX10_begin 6 = .ok (.iconst 0, 1) := dk_3 (by decide +kernel)
theorem dX10_begin_7 : decode cX10_begin 7 = .ok (.putfield 58, 3) := dk_181 (by decide +kernel)
theorem dX10_begin_10 : decode cX10_begin 10 = .ok (.aload_n 0, 1) := dk_42 (by decide +kernel)
theorem dX10_begin_11 : decode cX10_begin 11 = .ok (.iconst 0, 1) := dk_3 (by decide +kernel)
theorem dX10_begin_12 : decode cX10_begin 12 = .ok (.putfield 62, 3) := dk_181 (by decide +kernel)
theorem dX10_begin_15 : decode cX10_begin 15 = .ok (.aload_n 0, 1) := dk_42 (by decide +kernel)
theorem dX10_begin_16 : decode cX10_begin 16 = .ok (.getfield 30, 3) := dk_180 (by decide +kernel)
theorem dX10_begin_19 : decode cX10_begin 19 = .ok (.arraylength, 1) := dk_190 (by decide +kernel)
theorem dX10_begin_20 : decode cX10_begin 20 = .ok (.iload_n 2, 1) := dk_28 (by decide +kernel)
theorem dX10_begin_21 : decode cX10_begin 21 = .ok (.if_icmp .ge 29, 3) := dk_162 (by decide +kernel)
theorem dX10_begin_24 : decode cX10_begin 24 = .ok (.iload_n 2, 1) := dk_28 (by decide +kernel)
theorem dX10_begin_25 : decode cX10_begin 25 = .ok (.iconst 2, 1) := dk_5 (by decide +kernel)
theorem dX10_begin_26 : decode cX10_begin 26 = .ok (.aload_n 0, 1) := dk_42 (by decide +kernel)
theorem dX10_begin_27 : decode cX10_begin 27 = .ok (.getfield 30, 3) := dk_180 (by decide +kernel)
theorem dX10_begin_30 : decode cX10_begin 30 = .ok (.arraylength, 1) := dk_190 (by decide +kernel)
theorem dX10_begin_31 : decode cX10_begin 31 = .ok (.imul, 1) := dk_104 (by decide +kernel)
theorem dX10_begin_32 : decode cX10_begin 32 = .ok (.invokestatic 65, 3) := dk_184 (by decide +kernel)
theorem dX10_begin_35 : decode cX10_begin 35 = .ok (.istore_n 3, 1) := dk_62 (by decide +kernel)
theorem dX10_begin_36 : decode cX10_begin 36 = .ok (.aload_n 0, 1) := dk_42 (by decide +kernel)
theorem dX10_begin_37 : decode cX10_begin 37 = .ok (.iload_n 3, 1) := dk_29 (by decide +kernel)
theorem dX10_begin_38 : decode cX10_begin 38 = .ok (.newarray .int, 2) := by decide +kernel
theorem dX10_begin_40 : decode cX10_begin 40 = .ok (.putfield 30, 3) := dk_181 (by decide +kernel)
theorem dX10_begin_43 : decode cX10_begin 43 = .ok (.aload_n 0, 1) := dk_42 (by decide +kernel)
theorem dX10_begin_44 : decode cX10_begin 44 = .ok (.iload_n 3, 1) := dk_29 (by decide +kernel)
theorem dX10_begin_45 : decode cX10_begin 45 = .ok (.newarray .int, 2) := by decide +kernel
theorem dX10_begin_47 : decode cX10_begin 47 = .ok (.putfield 33, 3) := dk_181 (by decide +kernel)
theorem dX10_begin_50 : decode cX10_begin 50 = .ok (.return_, 1) := dk_177 (by decide +kernel)
def wsMX10_begin : List Cond := .code yX10_begin cX10_begin 4 none :: ([.fieldLink RX10 55 "OptimaWorks$Worker" "tree" "[I", .fieldLink RX10 58 "OptimaWorks$Worker" "names" "I", .fieldLink RX10 62 "OptimaWorks$Worker" "params" "I", .fieldLink RX10 30 "OptimaWorks$Worker" "paramOver" "[I", .methodLink RX10 65 Lib.Math.max.name, .static Lib.Math.max.name, .initialized "java/lang/Math", .code Lib.Math.max.name Lib.Math.max.code 2 (some .int), .arrayClass .int, .fieldLink RX10 33 "OptimaWorks$Worker" "paramUnder" "[I"] ++ wsX100)
theorem iwsMX10_begin_in10 : ∀ w ∈ wsX100, w ∈ wsMX10_begin := fun _ h => List.mem_cons_of_mem _ (List.mem_append_right _ h)
theorem gdwsMX10_begin : wsMX10_begin.all goodWord = true := gdC rfl (gdA (by decide +kernel : ([.fieldLink RX10 55 "OptimaWorks$Worker" "tree" "[I", .fieldLink RX10 58 "OptimaWorks$Worker" "names" "I", .fieldLink RX10 62 "OptimaWorks$Worker" "params" "I", .fieldLink RX10 30 "OptimaWorks$Worker" "paramOver" "[I", .methodLink RX10 65 Lib.Math.max.name, .static Lib.Math.max.name, .initialized "java/lang/Math", .code Lib.Math.max.name Lib.Math.max.code 2 (some .int), .arrayClass .int, .fieldLink RX10 33 "OptimaWorks$Worker" "paramUnder" "[I"] : List Cond).all goodWord = true) gdwsX100)
set_option maxHeartbeats 4000000 in
set_option maxRecDepth 100000 in
/-- work begins -/
theorem m_X10_begin (l : Launch) (dC : Nat → ClassId) (dI : Nat → Nat → Nat) (hL : Nat → Nat) (aL : Nat → Nat) (kL : Nat → ClassId) (hT : Nat → Nat) (hM : Nat → Nat) (xL_tree : Value) (iL_names : Int32) (gL_key : Nat → Int64) (fL_kind : Nat → Int32) (fL_one : Nat → Int32) (fL_two : Nat → Int32) (fL_base : Nat → Int32) (iL_params : Int32) (fL_paramOver : Nat → Int32) (dL_paramOver : Nat) (nL_params : Nat) (fL_paramUnder : Nat → Int32) (dL_paramUnder : Nat) (nL_pu : Nat) (gL_over : Nat → Int64) (gL_under : Nat → Int64) (fL_bound : Nat → Int32) (iL_nameAt : Int32) (iL_startAt : Int32) (iL_steps : Int32) (jL_scaleOver : Int64) (jL_scaleUnder : Int64) (q1 : Nat) (p2 : Int32) (b_iL_names : 0 ≤ iL_names.toInt ∧ iL_names.toInt ≤ 40) (b_fL_kind : ∀ q : Nat, 0 ≤ (fL_kind q).toInt ∧ (fL_kind q).toInt ≤ 5) (b_fL_two : ∀ q : Nat, (-1) ≤ (fL_two q).toInt ∧ (fL_two q).toInt ≤ 39) (b_fL_base : ∀ q : Nat, 0 ≤ (fL_base q).toInt ∧ (fL_base q).toInt ≤ 2560) (b_iL_params : 0 ≤ iL_params.toInt ∧ iL_params.toInt ≤ 2560) (b_nL_params : 0 ≤ nL_params ∧ nL_params ≤ 2560) (b_nm : NmL iL_names fL_kind fL_one fL_two fL_base nL_params) (b_pm : iL_params.toInt ≤ ((nL_params : Nat) : Int)) (b_pu : nL_pu = nL_params) (b_p2 : 0 ≤ p2.toInt ∧ p2.toInt ≤ 1280) (sz : Nat) : Met l yX10_begin wsMX10_begin ({ frames := 1, cells := 5122, slots := 15360, locals := 13 }) (va_Pc [.ref (hL 0), .ref q1, .int p2] (fun U => U.heap.size = sz ∧ va_P (dC, dI) vwCl (WL hL aL kL hT hM xL_tree iL_names gL_key fL_kind fL_one fL_two fL_base iL_params fL_paramOver dL_paramOver nL_params fL_paramUnder dL_paramUnder nL_pu gL_over gL_under fL_bound iL_nameAt iL_startAt iL_steps jL_scaleOver jL_scaleUnder) U.heap ∧ va_K (dC, dI) vwCl (tL kL) U ∧ va_D (fun _ => True) (WL hL aL kL hT hM xL_tree iL_names gL_key fL_kind fL_one fL_two fL_base iL_params fL_paramOver dL_paramOver nL_params fL_paramUnder dL_paramUnder nL_pu gL_over gL_under fL_bound iL_nameAt iL_startAt iL_steps jL_scaleOver jL_scaleUnder))) (va_Qv (fun (u : (Value) × (Int32) × (Int32) × (Nat → Int32) × (Nat) × (Nat) × (Nat → Int32) × (Nat) × (Nat)) => (0 ≤ (u.2.1).toInt ∧ (u.2.1).toInt ≤ 40) ∧ (0 ≤ (u.2.2.1).toInt ∧ (u.2.2.1).toInt ≤ 2560) ∧ (0 ≤ (u.2.2.2.2.2.1) ∧ (u.2.2.2.2.2.1) ≤ 2560) ∧ (NmL (u.2.1) fL_kind fL_one fL_two fL_base (u.2.2.2.2.2.1)) ∧ ((u.2.2.1).toInt ≤ (((u.2.2.2.2.2.1) : Nat) : Int)) ∧ ((u.2.2.2.2.2.2.2.2) = (u.2.2.2.2.2.1)) ∧ ((u.1) = .ref q1) ∧ ((u.2.2.1).toInt = 0) ∧ (p2.toInt ≤ (((u.2.2.2.2.2.1) : Nat) : Int)) ∧ (nL_params ≤ (u.2.2.2.2.2.1))) (fun (u : (Value) × (Int32) × (Int32) × (Nat → Int32) × (Nat) × (Nat) × (Nat → Int32) × (Nat) × (Nat)) t => va_P (dC, dI) vwCl (WL hL aL kL hT hM (u.1) (u.2.1) gL_key fL_kind fL_one fL_two fL_base (u.2.2.1) (u.2.2.2.1) (u.2.2.2.2.1) (u.2.2.2.2.2.1) (u.2.2.2.2.2.2.1) (u.2.2.2.2.2.2.2.1) (u.2.2.2.2.2.2.2.2) gL_over gL_under fL_bound iL_nameAt iL_startAt iL_steps jL_scaleOver jL_scaleUnder) t.heap ∧ va_D (va_A (WL hL aL kL hT hM xL_tree iL_names gL_key fL_kind fL_one fL_two fL_base iL_params fL_paramOver dL_paramOver nL_params fL_paramUnder dL_paramUnder nL_pu gL_over gL_under fL_bound iL_nameAt iL_startAt iL_steps jL_scaleOver jL_scaleUnder) sz) (WL hL aL kL hT hM (u.1) (u.2.1) gL_key fL_kind fL_one fL_two fL_base (u.2.2.1) (u.2.2.2.1) (u.2.2.2.2.1) (u.2.2.2.2.2.1) (u.2.2.2.2.2.2.1) (u.2.2.2.2.2.2.2.1) (u.2.2.2.2.2.2.2.2) gL_over gL_under fL_bound iL_nameAt iL_startAt iL_steps jL_scaleOver jL_scaleUnder) ∧ t.heap.size + (2 * nL_params) ≤ sz + (2 * (u.2.2.2.2.2.1)) ∧ nS sz t.heap + (4 * nL_params) ≤ (4 * (u.2.2.2.2.2.1))) (va_A (WL hL aL kL hT hM xL_tree iL_names gL_key fL_kind fL_one fL_two fL_base iL_params fL_paramOver dL_paramOver nL_params fL_paramUnder dL_paramUnder nL_pu gL_over gL_under fL_bound iL_nameAt iL_startAt iL_steps jL_scaleOver jL_scaleUnder) sz)) 5122 15360 (va_A (WL hL aL kL hT hM xL_tree iL_names gL_key fL_kind fL_one fL_two fL_base iL_params fL_paramOver dL_paramOver nL_params fL_paramUnder dL_paramUnder nL_pu gL_over gL_under fL_bound iL_nameAt iL_startAt iL_steps jL_scaleOver jL_scaleUnder) sz) := by
  refine Met.ofW (cc := cX10_begin) (maxL := 4) (ret := none) (by decide) rfl ?_
  intro p e s m args below meth c s₁ B hml hv
  obtain ⟨rfl, hsz, hP, hK, hD0⟩ := hv
  have hx := B.exec
  have hb := B.bytes
  have hr := B.returns
  have hts := atoms_spec (ws := wsMX10_begin) B.pre
  have hown : s.vm.findClass RX10 = some m.cls := findClass_of_methodNamed B.named
  have hlocks := B.notSynchronized
  subst hsz
  have hD := hD0.self (sz := s.heap.size)
  generalize hAe : va_A (WL hL aL kL hT hM xL_tree iL_names gL_key fL_kind fL_one fL_two fL_base iL_params fL_paramOver dL_paramOver nL_params fL_paramUnder dL_paramUnder nL_pu gL_over gL_under fL_bound iL_nameAt iL_startAt iL_steps jL_scaleOver jL_scaleUnder) s.heap.size = A at hD ⊢
  have hA : ∀ q : Nat, s.heap.size ≤ q → A q := fun q h => by rw [← hAe]; exact Or.inr h
  have hS : va_S A s.heap s.heap [] := va_S.rf
  have hl := lv_entry ([.ref (hL 0), .ref q1, .int p2]) (n := 4) (Nat.le_of_ble_eq_true rfl)
  rw [lg_entry_eq]
  generalize (lg_sl ([.ref (hL 0), .ref q1, .int p2]) ++ List.replicate (4 - (lg_sl ([.ref (hL 0), .ref q1, .int p2])).length) Slot.unset).toArray = ls at hl ⊢
  have hl : lv_has ls 4 [(0, .ref (hL 0)), (1, .ref q1), (2, .int p2)] := hl
  refine W.widen (k := (2 * nL_params - (2 * nL_params))) (n := (4 * nL_params - (4 * nL_params))) (Nat.zero_le _) (Nat.zero_le _) ?_
  refine lv_aload_n hx hb dX10_begin_0 rfl (lv_at hl 0 rfl) ?_
  refine lv_aload_n hx hb dX10_begin_1 rfl (lv_at hl 1 rfl) ?_
  refine va_put (D := (dC, dI)) (ci := 10) (v := .ref q1) (ty := .array .int) (C := RX10) (T := TX10) (N := 20) hx hb hts iwsMX10_begin_in10 tyX10 tyX10_ok nmX10 hown hK hP hD hS 0 rfl rfl 2 (by decide) (hts (.fieldLink RX10 55 "OptimaWorks$Worker" "tree" "[I") (by decide +kernel)) (fun _ h9 => h9) rfl (by decide +kernel) rfl rfl (Nat.le_of_ble_eq_true rfl) dX10_begin_2 (fun H locs hP hD hS => ?_)
  have hP : va_P (dC, dI) vwCl (WL hL aL kL hT hM (.ref q1) iL_names gL_key fL_kind fL_one fL_two fL_base iL_params fL_paramOver dL_paramOver nL_params fL_paramUnder dL_paramUnder nL_pu gL_over gL_under fL_bound iL_nameAt iL_startAt iL_steps jL_scaleOver jL_scaleUnder) H := hP
  have hD : va_D A (WL hL aL kL hT hM (.ref q1) iL_names gL_key fL_kind fL_one fL_two fL_base iL_params fL_paramOver dL_paramOver nL_params fL_paramUnder dL_paramUnder nL_pu gL_over gL_under fL_bound iL_nameAt iL_startAt iL_steps jL_scaleOver jL_scaleUnder) := hD
  refine lv_aload_n hx hb dX10_begin_5 rfl (lv_at hl 0 rfl) ?_
  refine lv_iconst (v := 0) hx hb dX10_begin_6 (by decide) ?_
  refine va_put (D := (dC, dI)) (ci := 10) (v := .int 0) (ty := .int) (C := RX10) (T := TX10) (N := 20) hx hb hts iwsMX10_begin_in10 tyX10 tyX10_ok nmX10 hown hK hP hD hS 0 rfl rfl 3 (by decide) (hts (.fieldLink RX10 58 "OptimaWorks$Worker" "names" "I") (by decide +kernel)) (fun _ h9 => h9) rfl (by decide +kernel) rfl rfl (Nat.le_of_ble_eq_true rfl) dX10_begin_7 (fun H locs hP hD hS => ?_)
  have hP : va_P (dC, dI) vwCl (WL hL aL kL hT hM (.ref q1) 0 gL_key fL_kind fL_one fL_two fL_base iL_params fL_paramOver dL_paramOver nL_params fL_paramUnder dL_paramUnder nL_pu gL_over gL_under fL_bound iL_nameAt iL_startAt iL_steps jL_scaleOver jL_scaleUnder) H := hP
  have hD : va_D A (WL hL aL kL hT hM (.ref q1) 0 gL_key fL_kind fL_one fL_two fL_base iL_params fL_paramOver dL_paramOver nL_params fL_paramUnder dL_paramUnder nL_pu gL_over gL_under fL_bound iL_nameAt iL_startAt iL_steps jL_scaleOver jL_scaleUnder) := hD
  refine lv_aload_n hx hb dX10_begin_10 rfl (lv_at hl 0 rfl) ?_
  refine lv_iconst (v := 0) hx hb dX10_begin_11 (by decide) ?_
  refine va_put (D := (dC, dI)) (ci := 10) (v := .int 0) (ty := .int) (C := RX10) (T := TX10) (N := 20) hx hb hts iwsMX10_begin_in10 tyX10 tyX10_ok nmX10 hown hK hP hD hS 0 rfl rfl 9 (by decide) (hts (.fieldLink RX10 62 "OptimaWorks$Worker" "params" "I") (by decide +kernel)) (fun _ h9 => h9) rfl (by decide +kernel) rfl rfl (Nat.le_of_ble_eq_true rfl) dX10_begin_12 (fun H locs hP hD hS => ?_)
  have hP : va_P (dC, dI) vwCl (WL hL aL kL hT hM (.ref q1) 0 gL_key fL_kind fL_one fL_two fL_base 0 fL_paramOver dL_paramOver nL_params fL_paramUnder dL_paramUnder nL_pu gL_over gL_under fL_bound iL_nameAt iL_startAt iL_steps jL_scaleOver jL_scaleUnder) H := hP
  have hD : va_D A (WL hL aL kL hT hM (.ref q1) 0 gL_key fL_kind fL_one fL_two fL_base 0 fL_paramOver dL_paramOver nL_params fL_paramUnder dL_paramUnder nL_pu gL_over gL_under fL_bound iL_nameAt iL_startAt iL_steps jL_scaleOver jL_scaleUnder) := hD
  refine lv_aload_n hx hb dX10_begin_15 rfl (lv_at hl 0 rfl) ?_
  refine va_get (D := (dC, dI)) (ci := 10) (v := .ref dL_paramOver) (C := RX10) (T := TX10) (N := 20) hx hb hts iwsMX10_begin_in10 hown hK hP 0 rfl rfl 10 (by decide) (hts (.fieldLink RX10 30 "OptimaWorks$Worker" "paramOver" "[I") (by decide +kernel)) (fun _ h9 => h9) rfl dX10_begin_16 ?_
  refine va_alen hx hb hK hP 6 5 rfl rfl (v := (iI ((nL_params : Nat) : Int))) (iI_nat _) dX10_begin_19 ?_
  refine lv_iload_n hx hb dX10_begin_20 rfl (lv_at hl 2 rfl) ?_
  refine W.known (fun hzk hnk => ?_)
  refine W.widen (k := 5120) (n := 10240) (by omega) (by omega) ?_
  refine W.cut (pc := 50) (fun H locs ls stk => ∃ (fL_paramOver_j2 : Nat → Int32) (dL_paramOver_j2 : Nat) (nL_params_j2 : Nat) (fL_paramUnder_j2 : Nat → Int32) (dL_paramUnder_j2 : Nat) (nL_pu_j2 : Nat), (0 ≤ nL_params_j2 ∧ nL_params_j2 ≤ 2560) ∧ (NmL (0 : Int32) fL_kind fL_one fL_two fL_base nL_params_j2) ∧ ((0 : Int32).toInt ≤ ((nL_params_j2 : Nat) : Int)) ∧ (nL_pu_j2 = nL_params_j2) ∧ (p2.toInt ≤ ((nL_params_j2 : Nat) : Int)) ∧ (nL_params ≤ nL_params_j2) ∧ (H.size + (2 * nL_params) ≤ s.heap.size + (2 * nL_params_j2) ∧ nS s.heap.size H + (4 * nL_params) ≤ (4 * nL_params_j2)) ∧  stk = [] ∧ va_P (dC, dI) vwCl (WL hL aL kL hT hM (.ref q1) 0 gL_key fL_kind fL_one fL_two fL_base 0 fL_paramOver_j2 dL_paramOver_j2 nL_params_j2 fL_paramUnder_j2 dL_paramUnder_j2 nL_pu_j2 gL_over gL_under fL_bound iL_nameAt iL_startAt iL_steps jL_scaleOver jL_scaleUnder) H ∧ va_D A (WL hL aL kL hT hM (.ref q1) 0 gL_key fL_kind fL_one fL_two fL_base 0 fL_paramOver_j2 dL_paramOver_j2 nL_params_j2 fL_paramUnder_j2 dL_paramUnder_j2 nL_pu_j2 gL_over gL_under fL_bound iL_nameAt iL_startAt iL_steps jL_scaleOver jL_scaleUnder) ∧ va_S A s.heap H locs ∧ lv_has ls 4 [(0, .ref (hL 0)), (1, .ref q1), (2, .int p2)]) (fun join2 => ?_) ?_
  · refine W.tight (cells2 := (2 * nL_params - (2 * nL_params))) (slots2 := (4 * nL_params - (4 * nL_params))) hzk hnk ?_
    refine lv_icmp_ge (tgt := 50) hx hb dX10_begin_21 (by decide) (fun c_21 => ?_) (fun c_21 => ?_)
    · first | (have t_21 : ((nL_params : Nat) : Int) ≥ p2.toInt := toI_ge c_21 (iI_t (by omega) (by omega)) rfl) | skip
      have hl : lv_has _ _ ([(0, .ref (hL 0)), (1, .ref q1), (2, .int p2)]) := lv_sub hl [0, 1, 2] rfl
      refine W.known (fun hza hna => ?_)
      refine W.widen (k := 5120) (n := 10240) (by omega) (by omega) ?_
      exact join2 _ _ _ _ ⟨fL_paramOver, dL_paramOver, nL_params, fL_paramUnder, dL_paramUnder, nL_pu, (by first | exact b_nL_params | assumption | exact ⟨by omega, by omega⟩), (NmL.nil (by decide)), (by have h7 : (0 : Int32).toInt = 0 := (by decide); omega), (by first | rfl | assumption | omega), (show p2.toInt ≤ ((nL_params : Nat) : Int) from by omega), (show nL_params ≤ nL_params from by omega), ⟨by omega, by omega⟩, rfl, hP, hD, hS, hl⟩
    · first | (have t_21 : ¬ ((nL_params : Nat) : Int) ≥ p2.toInt := toI_nge c_21 (iI_t (by omega) (by omega)) rfl) | skip
      refine lv_iload_n hx hb dX10_begin_24 rfl (lv_at hl 2 rfl) ?_
      refine lv_iconst (v := 2) hx hb dX10_begin_25 (by decide) ?_
      refine lv_aload_n hx hb dX10_begin_26 rfl (lv_at hl 0 rfl) ?_
      refine va_get (D := (dC, dI)) (ci := 10) (v := .ref dL_paramOver) (C := RX10) (T := TX10) (N := 20) hx hb hts iwsMX10_begin_in10 hown hK hP 0 rfl rfl 10 (by decide) (hts (.fieldLink RX10 30 "OptimaWorks$Worker" "paramOver" "[I") (by decide +kernel)) (fun _ h9 => h9) rfl dX10_begin_27 ?_
      refine va_alen hx hb hK hP 6 5 rfl rfl (v := (iI ((nL_params : Nat) : Int))) (iI_nat _) dX10_begin_30 ?_
      refine lv_imul hx hb dX10_begin_31 ?_
      refine lv_topi (fun y5 hy5 => ?_)
      obtain rfl : (iI (2 * ((nL_params : Nat) : Int))) = y5 := (hy5.trans (iI_mul2 (by decide : (2 : Int32) = iI 2) rfl)).symm
      refine va_mmax hx hb (by rw [hml]; exact hl.1.symm) hown (hts (.methodLink RX10 65 Lib.Math.max.name) (by decide +kernel)) (hts (.static Lib.Math.max.name) (by decide +kernel)) (hts (.initialized "java/lang/Math") (by decide +kernel)) (hts (.code Lib.Math.max.name Lib.Math.max.code 2 (some .int)) (by decide +kernel)) (by (dsimp only [headSpec] <;> omega)) (Nat.le_of_ble_eq_true rfl) (by (dsimp only [headSpec] <;> omega)) (by (dsimp only [headSpec] <;> omega)) dX10_begin_32 ?_
      refine lv_topi (fun v6 hv6 => ?_)
      first | (have b_v6 : (p2.toInt ≤ v6.toInt ∧ (2 * ((nL_params : Nat) : Int)) ≤ v6.toInt) ∧ (v6.toInt = p2.toInt ∨ v6.toInt = (2 * ((nL_params : Nat) : Int))) := by rw [hv6]; exact max_t rfl (iI_t (by omega) (by omega))) | skip
      clear hv6
      refine lv_istore_n hx hb dX10_begin_35 rfl hl (by decide) rfl (fun ls (hl : lv_has ls _ ([(3, .int v6), (0, .ref (hL 0)), (1, .ref q1), (2, .int p2)])) => ?_)
      refine lv_aload_n hx hb dX10_begin_36 rfl (lv_at hl 1 rfl) ?_
      refine lv_iload_n hx hb dX10_begin_37 rfl (lv_at hl 0 rfl) ?_
      obtain ⟨nn7, hnn7⟩ : ∃ k9 : Nat, (k9 : Int) = v6.toInt := ⟨(v6.toInt).toNat, by omega⟩
      refine va_newa (atype := .int) (ty := .int) (N' := nn7) (a0 := (nn7, .inl (fun _ => 0))) hx hb (hts (.arrayClass .int) (by decide +kernel)) rfl hK hP hD hS hA (fun _ => rfl) (nn_i rfl (by omega)) (clampN rfl hnn7) (by show nn7 * 4 ≤ 536870912; omega) (by (dsimp only [headSpec] <;> omega)) (by (dsimp only [headSpec] <;> omega)) dX10_begin_38 (fun qn7 cA H hKn hP hD hS => ?_)
      obtain rfl : cA = kL 5 := hKn.cls (i := 5) (j := 10) rfl rfl (by simp)
      clear hKn
      have hP : va_P (dC, dI) vwCl ((WL hL aL kL hT hM (.ref q1) 0 gL_key fL_kind fL_one fL_two fL_base 0 fL_paramOver dL_paramOver nL_params fL_paramUnder dL_paramUnder nL_pu gL_over gL_under fL_bound iL_nameAt iL_startAt iL_steps jL_scaleOver jL_scaleUnder) ++ [(qn7, .inl (kL 5, nn7, .inl (fun _ => 0)))]) H := hP
      have hD : va_D A ((WL hL aL kL hT hM (.ref q1) 0 gL_key fL_kind fL_one fL_two fL_base 0 fL_paramOver dL_paramOver nL_params fL_paramUnder dL_paramUnder nL_pu gL_over gL_under fL_bound iL_nameAt iL_startAt iL_steps jL_scaleOver jL_scaleUnder) ++ [(qn7, .inl (kL 5, nn7, .inl (fun _ => 0)))]) := hD
      refine va_put (D := (dC, dI)) (ci := 10) (v := .ref qn7) (ty := .array .int) (C := RX10) (T := TX10) (N := 20) hx hb hts iwsMX10_begin_in10 tyX10 tyX10_ok nmX10 hown hK hP hD hS 0 rfl rfl 10 (by decide) (hts (.fieldLink RX10 30 "OptimaWorks$Worker" "paramOver" "[I") (by decide +kernel)) (fun _ h9 => h9) rfl (by decide +kernel) rfl rfl (Nat.le_of_ble_eq_true rfl) dX10_begin_40 (fun H locs hP hD hS => ?_)
      have hP : va_P (dC, dI) vwCl (WL hL aL kL hT hM (.ref q1) 0 gL_key fL_kind fL_one fL_two fL_base 0 (fun _ => 0) qn7 nn7 fL_paramUnder dL_paramUnder nL_pu gL_over gL_under fL_bound iL_nameAt iL_startAt iL_steps jL_scaleOver jL_scaleUnder) _ := hP.sub [0, 1, 2, 3, 4, 5, 11, 7, 8, 9, 10] rfl
      have hD : va_D _ (WL hL aL kL hT hM (.ref q1) 0 gL_key fL_kind fL_one fL_two fL_base 0 (fun _ => 0) qn7 nn7 fL_paramUnder dL_paramUnder nL_pu gL_over gL_under fL_bound iL_nameAt iL_startAt iL_steps jL_scaleOver jL_scaleUnder) := hD.sub [0, 1, 2, 3, 4, 5, 11, 7, 8, 9, 10] (by decide) rfl
      have hP : va_P (dC, dI) vwCl (WL hL aL kL hT hM (.ref q1) 0 gL_key fL_kind fL_one fL_two fL_base 0 (fun _ => 0) qn7 nn7 fL_paramUnder dL_paramUnder nL_pu gL_over gL_under fL_bound iL_nameAt iL_startAt iL_steps jL_scaleOver jL_scaleUnder) H := hP
      have hD : va_D A (WL hL aL kL hT hM (.ref q1) 0 gL_key fL_kind fL_one fL_two fL_base 0 (fun _ => 0) qn7 nn7 fL_paramUnder dL_paramUnder nL_pu gL_over gL_under fL_bound iL_nameAt iL_startAt iL_steps jL_scaleOver jL_scaleUnder) := hD
      refine lv_aload_n hx hb dX10_begin_43 rfl (lv_at hl 1 rfl) ?_
      refine lv_iload_n hx hb dX10_begin_44 rfl (lv_at hl 0 rfl) ?_
      obtain ⟨nn8, hnn8⟩ : ∃ k9 : Nat, (k9 : Int) = v6.toInt := ⟨(v6.toInt).toNat, by omega⟩
      refine va_newa (atype := .int) (ty := .int) (N' := nn8) (a0 := (nn8, .inl (fun _ => 0))) hx hb (hts (.arrayClass .int) (by decide +kernel)) rfl hK hP hD hS hA (fun _ => rfl) (nn_i rfl (by omega)) (clampN rfl hnn8) (by show nn8 * 4 ≤ 536870912; omega) (by (dsimp only [headSpec] <;> omega)) (by (dsimp only [headSpec] <;> omega)) dX10_begin_45 (fun qn8 cA H hKn hP hD hS => ?_)
      obtain rfl : cA = kL 6 := hKn.cls (i := 6) (j := 10) rfl rfl (by simp)
      clear hKn
      have hP : va_P (dC, dI) vwCl ((WL hL aL kL hT hM (.ref q1) 0 gL_key fL_kind fL_one fL_two fL_base 0 (fun _ => 0) qn7 nn7 fL_paramUnder dL_paramUnder nL_pu gL_over gL_under fL_bound iL_nameAt iL_startAt iL_steps jL_scaleOver jL_scaleUnder) ++ [(qn8, .inl (kL 6, nn8, .inl (fun _ => 0)))]) H := hP
      have hD : va_D A ((WL hL aL kL hT hM (.ref q1) 0 gL_key fL_kind fL_one fL_two fL_base 0 (fun _ => 0) qn7 nn7 fL_paramUnder dL_paramUnder nL_pu gL_over gL_under fL_bound iL_nameAt iL_startAt iL_steps jL_scaleOver jL_scaleUnder) ++ [(qn8, .inl (kL 6, nn8, .inl (fun _ => 0)))]) := hD
      refine va_put (D := (dC, dI)) (ci := 10) (v := .ref qn8) (ty := .array .int) (C := RX10) (T := TX10) (N := 20) hx hb hts iwsMX10_begin_in10 tyX10 tyX10_ok nmX10 hown hK hP hD hS 0 rfl rfl 11 (by decide) (hts (.fieldLink RX10 33 "OptimaWorks$Worker" "paramUnder" "[I") (by decide +kernel)) (fun _ h9 => h9) rfl (by decide +kernel) rfl rfl (Nat.le_of_ble_eq_true rfl) dX10_begin_47 (fun H locs hP hD hS => ?_)
      have hP : va_P (dC, dI) vwCl (WL hL aL kL hT hM (.ref q1) 0 gL_key fL_kind fL_one fL_two fL_base 0 (fun _ => 0) qn7 nn7 (fun _ => 0) qn8 nn8 gL_over gL_under fL_bound iL_nameAt iL_startAt iL_steps jL_scaleOver jL_scaleUnder) _ := hP.sub [0, 1, 2, 3, 4, 5, 6, 11, 8, 9, 10] rfl
      have hD : va_D _ (WL hL aL kL hT hM (.ref q1) 0 gL_key fL_kind fL_one fL_two fL_base 0 (fun _ => 0) qn7 nn7 (fun _ => 0) qn8 nn8 gL_over gL_under fL_bound iL_nameAt iL_startAt iL_steps jL_scaleOver jL_scaleUnder) := hD.sub [0, 1, 2, 3, 4, 5, 6, 11, 8, 9, 10] (by decide) rfl
      have hP : va_P (dC, dI) vwCl (WL hL aL kL hT hM (.ref q1) 0 gL_key fL_kind fL_one fL_two fL_base 0 (fun _ => 0) qn7 nn7 (fun _ => 0) qn8 nn8 gL_over gL_under fL_bound iL_nameAt iL_startAt iL_steps jL_scaleOver jL_scaleUnder) H := hP
      have hD : va_D A (WL hL aL kL hT hM (.ref q1) 0 gL_key fL_kind fL_one fL_two fL_base 0 (fun _ => 0) qn7 nn7 (fun _ => 0) qn8 nn8 gL_over gL_under fL_bound iL_nameAt iL_startAt iL_steps jL_scaleOver jL_scaleUnder) := hD
      refine W.widen (k := (2 * nn7 - (2 * nL_params))) (n := (4 * nn7 - (4 * nL_params))) (by omega) (by omega) ?_
      have hl : lv_has _ _ ([(0, .ref (hL 0)), (1, .ref q1), (2, .int p2)]) := lv_sub hl [1, 2, 3] rfl
      refine W.known (fun hza hna => ?_)
      refine W.widen (k := 5120) (n := 10240) (by omega) (by omega) ?_
      exact join2 _ _ _ _ ⟨(fun _ => 0), qn7, nn7, (fun _ => 0), qn8, nn8, (by first | exact b_nn7 | assumption | exact ⟨by omega, by omega⟩), (NmL.nil (by decide)), (by have h7 : (0 : Int32).toInt = 0 := (by decide); omega), (by first | rfl | assumption | omega), (show p2.toInt ≤ ((nn7 : Nat) : Int) from by omega), (show nL_params ≤ nn7 from by omega), ⟨by omega, by omega⟩, rfl, hP, hD, hS, hl⟩
  · rintro H locs ls stk ⟨fL_paramOver_j2, dL_paramOver_j2, nL_params_j2, fL_paramUnder_j2, dL_paramUnder_j2, nL_pu_j2, b_nL_params_j2, b_nm_j2, b_pm_j2, b_pu_j2, hjp, hgm0_j2, ⟨hzj, hnj⟩, rfl, hP, hD, hS, hl⟩
    refine W.tight (cells2 := (2 * nL_params_j2 - (2 * nL_params))) (slots2 := (4 * nL_params_j2 - (4 * nL_params))) (tg1 hzj hS.1) (tg2 hnj) ?_
    refine W.known (fun hz9 hn9 => ?_)
    refine W.widen (k := 5122) (n := 15360) (by omega) (by omega) ?_
    exact W.vret hx hb hr (fun t9_ ht hW => ⟨⟨((.ref q1), 0, 0, fL_paramOver_j2, dL_paramOver_j2, nL_params_j2, fL_paramUnder_j2, dL_paramUnder_j2, nL_pu_j2), rfl, ⟨(by (try dsimp only); exact (show 0 ≤ (0 : Int32).toInt ∧ (0 : Int32).toInt ≤ 40 from by decide)), (by (try dsimp only); exact (show 0 ≤ (0 : Int32).toInt ∧ (0 : Int32).toInt ≤ 2560 from by decide)), (by (try dsimp only); exact (by first | exact b_nL_params_j2 | assumption | exact ⟨by omega, by omega⟩)), (by (try dsimp only); exact (NmL.nil (by decide))), (by (try dsimp only); exact (by have h7 : (0 : Int32).toInt = 0 := (by decide); omega)), (by (try dsimp only); exact (by first | rfl | assumption | omega)), (by (try dsimp only); first | done | rfl), (by (try dsimp only); first | done | decide), (by (try dsimp only); first | assumption | omega), (by (try dsimp only); omega)⟩, by rw [ht]; exact hP, hD, by rw [ht]; (try dsimp only); omega, by rw [ht]; (try dsimp only); omega⟩, hS.F ht⟩) hS.2.2 dX10_begin_50

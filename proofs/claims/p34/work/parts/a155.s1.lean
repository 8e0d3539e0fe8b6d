theorem hd_yX5_differ_RX5 : yX5_differ.cls = RX5 ∧ yX5_differ.cls ≠ "java/lang/invoke/MethodHandle" ∧ yX5_differ.cls ≠ "java/lang/invoke/VarHandle" ∧ (parseMethodDescriptor yX5_differ.desc).map (fun d => d.parameters.length) = some 1 := by decide +kernel
theorem hd_yX5_allDiffer_RX5 : yX5_allDiffer.cls = RX5 ∧ yX5_allDiffer.cls ≠ "java/lang/invoke/MethodHandle" ∧ yX5_allDiffer.cls ≠ "java/lang/invoke/VarHandle" ∧ (parseMethodDescriptor yX5_allDiffer.desc).map (fun d => d.parameters.length) = some 0 := by decide +kernel
theorem hd_yX1_range_RX1 : yX1_range.cls = RX1 ∧ yX1_range.cls ≠ "java/lang/invoke/MethodHandle" ∧ yX1_range.cls ≠ "java/lang/invoke/VarHandle" ∧ (parseMethodDescriptor yX1_range.desc).map (fun d => d.parameters.length) = some 1 := by decide +kernel
def WO (hO : Nat → Nat) (aO : Nat → Nat) (kO : Nat → ClassId) (hM : Nat → Nat) (hQ : Nat → Nat) (hw : Nat → Nat) (iO_answered : Int32) (iO_searched : Int32) (iO_searchedRelaxed : Int32) (iO_counted : Int32) (fO_countedCase : Nat → Int32) (gO_goalNumber : Nat → Int64) (gO_goalScale : Nat → Int64) (fO_start : Nat → Int32) (fO_column : Nat → Int32) (fO_chosen : Nat → Int32) : va_W := [(hO 0, .inr (5, [.ref (hM 0), .ref (hQ 0), .int iO_answered, .int iO_searched, .int iO_searchedRelaxed, .int iO_counted, .ref (aO 0), .ref (aO 1), .ref (aO 2), .ref (aO 3), .ref (aO 4), .ref (aO 5), .ref (aO 6), .ref (aO 7), .ref (hw 417), .ref (aO 8), .ref (hw 426), .ref (hw 427), .ref (aO 9)])), (aO 0, .inl (kO 0, 64, .inl fO_countedCase)), (aO 1, .inl (kO 1, 24, .inr (.inl gO_goalNumber))), (aO 2, .inl (kO 2, 3, .inr (.inl gO_goalScale))), (aO 3, .inl (kO 3, 8, .inl fO_start)), (aO 4, .inl (kO 4, 8, .inl fO_column)), (aO 5, .inl (kO 5, 12, .inl fO_chosen)), (aO 6, .inl (kO 6, 8, .inr (.inr (.inr (.inr (fun q => some (hw (406 + q)))))))), (aO 7, .inl (kO 7, 3, .inr (.inr (.inr (.inr (fun q => some (hw (414 + q)))))))), (aO 8, .inl (kO 8, 8, .inr (.inr (.inr (.inr (fun q => some (hw (418 + q)))))))), (aO 9, .inl (kO 9, 4, .inr (.inr (.inr (.inr (fun q => some (hw (428 + q))))))))]
def tO (kO : Nat → ClassId) : List (ClassId × FieldType) := [(kO 0, .int), (kO 1, .long), (kO 2, .long), (kO 3, .int), (kO 4, .int), (kO 5, .int), (kO 6, .object "OptimaWorks$Whole"), (kO 7, .object "OptimaWorks$Whole"), (kO 8, .object "OptimaWorks$Whole"), (kO 9, .object "OptimaWorks$Whole")]
theorem dX10_divisor_0 : decode cX10_divisor 0 = .ok (.lload_n 0, 1) := dk_30 (by decide +kernel)
theorem dX10_divisor_1 : decode cX10_divisor 1 = .ok (.invokestatic 179, 3) := dk_184 (by decide +kernel)
theorem dX10_divisor_4 : decode cX10_divisor 4 = .ok (.lstore 4, 2) := dk_55 (by decide +kernel)
theorem dX10_divisor_6 : decode cX10_divisor 6 = .ok (.lload_n 2, 1) := dk_32 (by decide +kernel)
theorem dX10_divisor_7 : decode cX10_divisor 7 = .ok (.invokestatic 179, 3) := dk_184 (by decide +kernel)
theorem dX10_divisor_10 : decode cX10_divisor 10 = .ok (.lstore 6, 2) := dk_55 (by decide +kernel)
theorem dX10_divisor_12 : decode cX10_divisor 12 = .ok (.iconst 0, 1) := dk_3 (by decide +kernel)
theorem dX10_divisor_13 : decode cX10_divisor 13 = .ok (.istore 8, 2) := dk_54 (by decide +kernel)
theorem dX10_divisor_15 : decode cX10_divisor 15 = .ok (.iload 8, 2) := dk_21 (by decide +kernel)
theorem dX10_divisor_17 : decode cX10_divisor 17 = .ok (.sipush 200, 3) := dk_17 (by decide +kernel)
theorem dX10_divisor_20 : decode cX10_divisor 20 = .ok (.if_icmp .ge 31, 3) := dk_162 (by decide +kernel)
theorem dX10_divisor_23 : decode cX10_divisor 23 = .ok (.lload 6, 2) := dk_22 (by decide +kernel)
theorem dX10_divisor_25 : decode cX10_divisor 25 = .ok (.lconst 0, 1) := dk_9 (by decide +kernel)
theorem dX10_divisor_26 : decode cX10_divisor 26 = .ok (.lcmp, 1) := dk_148 (by decide +kernel)
theorem dX10_divisor_27 : decode cX10_divisor 27 = .ok (.ifCond .eq 24, 3) := dk_153 (by decide +kernel)
theorem dX10_divisor_30 : decode cX10_divisor 30 = .ok (.lload 4, 2) := dk_22 (by decide +kernel)
theorem dX10_divisor_32 : decode cX10_divisor 32 = .ok (.lload 6, 2) := dk_22 (by decide +kernel)
theorem dX10_divisor_34 : decode cX10_divisor 34 = .ok (.lrem, 1) := dk_113 (by decide +kernel)
theorem dX10_divisor_35 : decode cX10_divisor 35 = .ok (.lstore 9, 2) := dk_55 (by decide +kernel)
theorem dX10_divisor_37 : decode cX10_divisor 37 = .ok (.lload 6, 2) := dk_22 (by decide +kernel)
theorem dX10_divisor_39 : decode cX10_divisor 39 = .ok (.lstore 4, 2) := dk_55 (by decide +kernel)
theorem dX10_divisor_41 : decode cX10_divisor 41 = .ok (.lload 9, 2) := dk_22 (by decide +kernel)
theorem dX10_divisor_43 : decode cX10_divisor 43 = .ok (.lstore 6, 2) := dk_55 (by decide +kernel)
theorem dX10_divisor_45 : decode cX10_divisor 45 = .ok (.iinc 8 1, 3) := dk_132 (by decide +kernel)
theorem dX10_divisor_48 : decode cX10_divisor 48 = .ok (.goto (-33), 3) := dk_167 (by decide +kernel)
theorem dX10_divisor_51 : decode cX10_divisor 51 = .ok (.lload 4, 2) := dk_22 (by decide +kernel)
theorem dX10_divisor_53 : decode cX10_divisor 53 = .ok (.lconst 0, 1) := dk_9 (by decide +kernel)
theorem dX10_divisor_54 : decode cX10_divisor 54 = .ok (.lcmp, 1) := dk_148 (by decide +kernel)
theorem dX10_divisor_55 : decode cX10_divisor 55 = .ok (.ifCond .ne 7, 3) := dk_154 (by decide +kernel)
theorem dX10_divisor_58 : decode cX10_divisor 58 = .ok (.lconst 1, 1) := dk_10 (by decide +kernel)
theorem dX10_divisor_59 : decode cX10_divisor 59 = .ok (.goto 5, 3) := dk_167 (by decide +kernel)
theorem dX10_divisor_62 : decode cX10_divisor 62 = .ok (.lload 4, 2) := dk_22 (by decide +kernel)
theorem dX10_divisor_64 : decode cX10_divisor 64 = .ok (.lreturn, 1) := dk_173 (by decide +kernel)
def wsMX10_divisor : List Cond := .code yX10_divisor cX10_divisor 11 (some .long) :: ([.methodLink RX10 179 Lib.MathLoose.abs_long.x, .static Lib.MathLoose.abs_long.x, .initialized "java/lang/Math", .code Lib.MathLoose.abs_long.x Lib.MathLoose.abs_long.code 2 (some .long)])
theorem gdwsMX10_divisor : wsMX10_divisor.all goodWord = true := gdC rfl (by decide +kernel : ([.methodLink RX10 179 Lib.MathLoose.abs_long.x, .static Lib.MathLoose.abs_long.x, .initialized "java/lang/Math", .code Lib.MathLoose.abs_long.x Lib.MathLoose.abs_long.code 2 (some .long)] : List Cond).all goodWord = true)
set_option maxHeartbeats 4000000 in
set_option maxRecDepth 100000 in
/-- the common divisor -/
theorem m_X10_divisor (l : Launch) (dC : Nat → ClassId) (dI : Nat → Nat → Nat) (p1 : Int64) (p2 : Int64) (sz : Nat) : Met l yX10_divisor wsMX10_divisor ({ frames := 1, cells := 0, slots := 0, locals := 13 }) (va_Pc [.long p1, .long p2] (fun U => U.heap.size = sz ∧ va_P (dC, dI) vwCl [] U.heap ∧ va_K (dC, dI) vwCl [] U ∧ va_D (fun _ => True) [])) (va_Ql (fun (r : Int64) (u : Unit) => (r.toInt ≠ 0)) (fun (u : Unit) t => True) (va_A [] sz)) 0 0 (va_A [] sz) := by
  refine Met.ofW (cc := cX10_divisor) (maxL := 11) (ret := (some .long)) (by decide) rfl ?_
  intro p e s m args below meth c s₁ B hml hv
  obtain ⟨rfl, hsz, hP, hK, hD0⟩ := hv
  have hx := B.exec
  have hb := B.bytes
  have hr := B.returns
  have hts := atoms_spec (ws := wsMX10_divisor) B.pre
  have hown : s.vm.findClass RX10 = some m.cls := findClass_of_methodNamed B.named
  have hlocks := B.notSynchronized
  subst hsz
  have hD := hD0.self (sz := s.heap.size)
  generalize hAe : va_A [] s.heap.size = A at hD ⊢
  have hA : ∀ q : Nat, s.heap.size ≤ q → A q := fun q h => by rw [← hAe]; exact Or.inr h
  have hS : va_S A s.heap s.heap [] := va_S.rf
  have hl := lv_entry ([.long p1, .long p2]) (n := 11) (Nat.le_of_ble_eq_true rfl)
  rw [lg_entry_eq]
  generalize (lg_sl ([.long p1, .long p2]) ++ List.replicate (11 - (lg_sl ([.long p1, .long p2])).length) Slot.unset).toArray = ls at hl ⊢
  have hl : lv_has ls 11 [(0, .long p1), (2, .long p2)] := hl
  refine lv_lload_n hx hb dX10_divisor_0 rfl (lv_at hl 0 rfl) ?_
  refine va_mabs_long hx hb (by rw [hml]; exact hl.1.symm) hown (hts (.methodLink RX10 179 Lib.MathLoose.abs_long.x) (by decide +kernel)) (hts (.static Lib.MathLoose.abs_long.x) (by decide +kernel)) (hts (.initialized "java/lang/Math") (by decide +kernel)) (hts (.code Lib.MathLoose.abs_long.x Lib.MathLoose.abs_long.code 2 (some .long)) (by decide +kernel)) (by decide +kernel) (Nat.le_of_ble_eq_true rfl) (by decide +kernel) (by decide +kernel) dX10_divisor_1 ?_
  refine lv_topl (fun v1 hv1 => ?_)
  clear hv1
  refine lv_lstore hx hb dX10_divisor_4 hl (by decide) rfl (fun ls (hl : lv_has ls _ ([(4, .long v1), (0, .long p1), (2, .long p2)])) => ?_)
  refine lv_lload_n hx hb dX10_divisor_6 rfl (lv_at hl 2 rfl) ?_
  refine va_mabs_long hx hb (by rw [hml]; exact hl.1.symm) hown (hts (.methodLink RX10 179 Lib.MathLoose.abs_long.x) (by decide +kernel)) (hts (.static Lib.MathLoose.abs_long.x) (by decide +kernel)) (hts (.initialized "java/lang/Math") (by decide +kernel)) (hts (.code Lib.MathLoose.abs_long.x Lib.MathLoose.abs_long.code 2 (some .long)) (by decide +kernel)) (by decide +kernel) (Nat.le_of_ble_eq_true rfl) (by decide +kernel) (by decide +kernel) dX10_divisor_7 ?_
  refine lv_topl (fun v2 hv2 => ?_)
  clear hv2
  refine lv_lstore hx hb dX10_divisor_10 hl (by decide) rfl (fun ls (hl : lv_has ls _ ([(6, .long v2), (4, .long v1), (0, .long p1), (2, .long p2)])) => ?_)
  refine lv_iconst (v := 0) hx hb dX10_divisor_12 (by decide) ?_
  refine lv_istore hx hb dX10_divisor_13 hl (by decide) rfl (fun ls (hl : lv_has ls _ ([(8, .int 0), (6, .long v2), (4, .long v1), (0, .long p1), (2, .long p2)])) => ?_)
  have hl : lv_has _ _ ([(8, .int 0), (6, .long v2), (4, .long v1), (0, .long p1), (2, .long p2)]) := lv_sub hl [0, 1, 2, 3, 4] rfl
  refine (fun (loop : ∀ (n9 : Nat) (l8_x15 : Int32) (l6_x15 : Int64) (l4_x15 : Int64) (H : Heap) (locs : List Loc) (ls : Array Slot), (0 ≤ l8_x15.toInt ∧ l8_x15.toInt ≤ 200) → (200 - l8_x15.toInt < ((n9 : Nat) : Int)) → va_P (dC, dI) vwCl ([]) H → va_D A ([]) → va_S A s.heap H locs → lv_has ls 11 [(8, .int l8_x15), (6, .long l6_x15), (4, .long l4_x15), (0, .long p1), (2, .long p2)] → W p l e _ s m _ below meth c H locs 0 0 _ (F0 m 15 ls [])) => loop (201) 0 v2 v1 _ _ _ (show 0 ≤ (0 : Int32).toInt ∧ (0 : Int32).toInt ≤ 200 from by decide) ((by have e9 : (0 : Int32).toInt = 0 := (by decide : (0 : Int32).toInt = 0); omega)) hP hD hS hl) ?_
  intro n9
  induction n9 with
  | zero => intro l8_x15 l6_x15 l4_x15 H locs ls b_l8_x15 hf9; exact False.elim (by omega)
  | succ n9 ihx15 =>
    intro l8_x15 l6_x15 l4_x15 H locs ls b_l8_x15 hfx15 hP hD hS hl
    refine lv_iload hx hb dX10_divisor_15 (lv_at hl 0 rfl) ?_
    refine lv_sipush (v := 200) hx hb dX10_divisor_17 (by decide) ?_
    refine W.cut (pc := 51) (fun H locs ls stk =>  stk = [] ∧ va_P (dC, dI) vwCl ([]) H ∧ va_D A ([]) ∧ va_S A s.heap H locs ∧ lv_has ls 11 [(8, .int l8_x15), (6, .long l6_x15), (4, .long l4_x15), (0, .long p1), (2, .long p2)]) (fun join9 => ?_) ?_
    · refine lv_icmp_ge (tgt := 51) hx hb dX10_divisor_20 (by decide) (fun c_20 => ?_) (fun c_20 => ?_)
      · have t_20 : l8_x15.toInt ≥ 200 := toI_ge c_20 rfl (by decide : (200 : Int32).toInt = 200)
        have hl : lv_has _ _ ([(8, .int l8_x15), (6, .long l6_x15), (4, .long l4_x15), (0, .long p1), (2, .long p2)]) := lv_sub hl [0, 1, 2, 3, 4] rfl
        exact join9 _ _ _ _ ⟨rfl, hP, hD, hS, hl⟩
      · have t_20 : ¬ l8_x15.toInt ≥ 200 := toI_nge c_20 rfl (by decide : (200 : Int32).toInt = 200)
        refine lv_lload hx hb dX10_divisor_23 (lv_at hl 1 rfl) ?_
        refine lv_lconst (v := 0) hx hb dX10_divisor_25 (by decide) ?_
        refine W.lcmp hx hb dX10_divisor_26 ?_
        refine lv_if_eq (tgt := 51) hx hb dX10_divisor_27 (by decide) (fun c_27 => ?_) (fun c_27 => ?_)
        · have t_27 : l6_x15.toInt = 0 := toL_eq c_27 rfl (by decide : (0 : Int64).toInt = 0)
          have hl : lv_has _ _ ([(8, .int l8_x15), (6, .long l6_x15), (4, .long l4_x15), (0, .long p1), (2, .long p2)]) := lv_sub hl [0, 1, 2, 3, 4] rfl
          exact join9 _ _ _ _ ⟨rfl, hP, hD, hS, hl⟩
        · have t_27 : ¬ l6_x15.toInt = 0 := toL_neq c_27 rfl (by decide : (0 : Int64).toInt = 0)
          refine lv_lload hx hb dX10_divisor_30 (lv_at hl 2 rfl) ?_
          refine lv_lload hx hb dX10_divisor_32 (lv_at hl 1 rfl) ?_
          refine lv_lrem hx hb dX10_divisor_34 (nz_l (x := l6_x15) rfl (by omega)) ?_
          refine lv_topl (fun v8 hv8 => ?_)
          clear hv8
          refine lv_lstore hx hb dX10_divisor_35 hl (by decide) rfl (fun ls (hl : lv_has ls _ ([(9, .long v8), (8, .int l8_x15), (6, .long l6_x15), (4, .long l4_x15), (0, .long p1), (2, .long p2)])) => ?_)
          refine lv_lload hx hb dX10_divisor_37 (lv_at hl 2 rfl) ?_
          refine lv_lstore hx hb dX10_divisor_39 hl (by decide) rfl (fun ls (hl : lv_has ls _ ([(4, .long l6_x15), (9, .long v8), (8, .int l8_x15), (6, .long l6_x15), (0, .long p1), (2, .long p2)])) => ?_)
          refine lv_lload hx hb dX10_divisor_41 (lv_at hl 1 rfl) ?_
          refine lv_lstore hx hb dX10_divisor_43 hl (by decide) rfl (fun ls (hl : lv_has ls _ ([(6, .long v8), (4, .long l6_x15), (9, .long v8), (8, .int l8_x15), (0, .long p1), (2, .long p2)])) => ?_)
          refine lv_iinc (v := (iI (l8_x15.toInt + 1))) hx hb dX10_divisor_45 hl (k := 3) rfl (iI_add2 (iI_of _) (by decide : (1 : Int32) = iI 1)) (by decide) rfl (fun ls (hl : lv_has ls _ ([(8, .int (iI (l8_x15.toInt + 1))), (6, .long v8), (4, .long l6_x15), (9, .long v8), (0, .long p1), (2, .long p2)])) => ?_)
          refine lv_goto (tgt := 15) hx hb dX10_divisor_48 (by decide) ?_
          have hl : lv_has _ _ ([(8, .int (iI (l8_x15.toInt + 1))), (6, .long v8), (4, .long l6_x15), (0, .long p1), (2, .long p2)]) := lv_sub hl [0, 1, 2, 4, 5] rfl
          exact ihx15 (iI (l8_x15.toInt + 1)) v8 l6_x15 _ _ _ (iI_rng (Int.le_trans (by decide) (Int.add_le_add (b_l8_x15.1) (Int.le_refl _))) (by omega) (by decide) (by decide)) (by have e9 : ((iI (l8_x15.toInt + 1))).toInt = (l8_x15.toInt + 1) := (iI_t (Int.le_trans (by decide) (Int.add_le_add (b_l8_x15.1) (Int.le_refl _))) (Int.le_trans (Int.add_le_add (b_l8_x15.2) (Int.le_refl _)) (by decide))); omega) hP hD hS hl
    · rintro H locs ls stk ⟨rfl, hP, hD, hS, hl⟩
      refine lv_lload hx hb dX10_divisor_51 (lv_at hl 2 rfl) ?_
      refine lv_lconst (v := 0) hx hb dX10_divisor_53 (by decide) ?_
      refine W.lcmp hx hb dX10_divisor_54 ?_
      refine W.cut (pc := 64) (fun H locs ls stk => ∃ (k0_j10 : Int64), (k0_j10.toInt ≠ 0) ∧  stk = [.long k0_j10] ∧ va_P (dC, dI) vwCl ([]) H ∧ va_D A ([]) ∧ va_S A s.heap H locs ∧ lv_has ls 11 [(8, .int l8_x15), (6, .long l6_x15), (4, .long l4_x15), (0, .long p1), (2, .long p2)]) (fun join10 => ?_) ?_
      · refine lv_if_ne (tgt := 62) hx hb dX10_divisor_55 (by decide) (fun c_55 => ?_) (fun c_55 => ?_)
        · have t_55 : l4_x15.toInt ≠ 0 := toL_ne c_55 rfl (by decide : (0 : Int64).toInt = 0)
          refine lv_lload hx hb dX10_divisor_62 (lv_at hl 2 rfl) ?_
          have hl : lv_has _ _ ([(8, .int l8_x15), (6, .long l6_x15), (4, .long l4_x15), (0, .long p1), (2, .long p2)]) := lv_sub hl [0, 1, 2, 3, 4] rfl
          exact join10 _ _ _ _ ⟨l4_x15, (show l4_x15.toInt ≠ 0 from by first | omega | decide), rfl, hP, hD, hS, hl⟩
        · have t_55 : l4_x15.toInt = 0 := toL_nne c_55 rfl (by decide : (0 : Int64).toInt = 0)
          refine lv_lconst (v := 1) hx hb dX10_divisor_58 (by decide) ?_
          refine lv_goto (tgt := 64) hx hb dX10_divisor_59 (by decide) ?_
          have hl : lv_has _ _ ([(8, .int l8_x15), (6, .long l6_x15), (4, .long l4_x15), (0, .long p1), (2, .long p2)]) := lv_sub hl [0, 1, 2, 3, 4] rfl
          exact join10 _ _ _ _ ⟨1, (show (1 : Int64).toInt ≠ 0 from by first | omega | decide), rfl, hP, hD, hS, hl⟩
      · rintro H locs ls stk ⟨k0_j10, hnz, rfl, hP, hD, hS, hl⟩
        refine W.widen (k := 0) (n := 0) (by decide +kernel) (by decide +kernel) ?_
        exact W.lret (v := k0_j10) hx hb hr (fun t9_ ht hW => ⟨⟨k0_j10, (), rfl, (by (try dsimp only); exact (hnz)), trivial⟩, hS.F ht⟩) hS.2.2 dX10_divisor_64
theorem dX5_forget_0 : decode cX5_forget 0 = .ok (.aload_n 0, 1) := dk_42 (by decide +kernel)
theorem dX5_forget_1 : decode cX5_forget 1 = .ok (.iconst 0, 1) := dk_3 (by decide +kernel)
theorem dX5_forget_2 : decode cX5_forget 2 = .ok (.putfield 78, 3) := dk_181 (by decide +kernel)
theorem dX5_forget_5 : decode cX5_forget 5 = .ok (.aload_n 0, 1) := dk_42 (by decide +kernel)
theorem dX5_forget_6 : decode cX5_forget 6 = .ok (.iconst 0, 1) := dk_3 (by decide +kernel)
theorem dX5_forget_7 : decode cX5_forget 7 = .ok (.putfield 82, 3) := dk_181 (by decide +kernel)
theorem dX5_forget_10 : decode cX5_forget 10 = .ok (.aload_n 0, 1) := dk_42 (by decide +kernel)
theorem dX5_forget_11 : decode cX5_forget 11 = .ok (.iconst (-1), 1) := dk_2 (by decide +kernel)
theorem dX5_forget_12 : decode cX5_forget 12 = .ok (.putfield 18, 3) := dk_181 (by decide +kernel)
theorem dX5_forget_15 : decode cX5_forget 15 = .ok (.return_, 1) := dk_177 (by decide +kernel)
def wsMX5_forget : List Cond := .code yX5_forget cX5_forget 1 none :: ([.fieldLink RX5 78 "OptimaWorks$Solver" "answered" "Z", .fieldLink RX5 82 "OptimaWorks$Solver" "searched" "Z", .fieldLink RX5 18 "OptimaWorks$Solver" "counted" "I"] ++ wsX50)
theorem iwsMX5_forget_in5 : ∀ w ∈ wsX50, w ∈ wsMX5_forget := fun _ h => List.mem_cons_of_mem _ (List.mem_append_right _ h)
theorem gdwsMX5_forget : wsMX5_forget.all goodWord = true := gdC rfl (gdA (by decide +kernel : ([.fieldLink RX5 78 "OptimaWorks$Solver" "answered" "Z", .fieldLink RX5 82 "OptimaWorks$Solver" "searched" "Z", .fieldLink RX5 18 "OptimaWorks$Solver" "counted" "I"] : List Cond).all goodWord = true) gdwsX50)
set_option maxHeartbeats 4000000 in
set_option maxRecDepth 100000 in
/-- forgotten -/
theorem m_X5_forget (l : Launch) (dC : Nat → ClassId) (dI : Nat → Nat → Nat) (hO : Nat → Nat) (aO : Nat → Nat) (kO : Nat → ClassId) (hM : Nat → Nat) (hQ : Nat → Nat) (hw : Nat → Nat) (iO_answered : Int32) (iO_searched : Int32) (iO_searchedRelaxed : Int32) (iO_counted : Int32) (fO_countedCase : Nat → Int32) (gO_goalNumber : Nat → Int64) (gO_goalScale : Nat → Int64) (fO_start : Nat → Int32) (fO_column : Nat → Int32) (fO_chosen : Nat → Int32) (aM : Nat → Nat) (kM : Nat → ClassId) (iM_stands : Int32) (iM_variables : Int32) (iM_rows : Int32) (iM_goals : Int32) (iM_differents : Int32) (iM_cases : Int32) (fM_from : Nat → Int32) (fM_to : Nat → Int32) (fM_whole : Nat → Int32) (fM_ways : Nat → Int32) (iM_plainRows : Int32) (fM_plainRow : Nat → Int32) (fM_kept : Nat → Int32) (fM_goalOver : Nat → Int32) (fM_goalUnder : Nat → Int32) (fM_goalMax : Nat → Int32) (fM_different : Nat → Int32) (aQ : Nat → Nat) (kQ : Nat → ClassId) (fQ_inside : Nat → Int32) (fQ_outside : Nat → Int32) (fQ_shut : Nat → Int32) (iQ_rows : Int32) (iQ_allRows : Int32) (iQ_columns : Int32) (nW : Nat) (lw : Nat → Nat) (kw : ClassId) (wl : Nat → Int32) (wb : Nat → Int32) (wG : Nat → Nat → Int64) (b_iO_answered : 0 ≤ iO_answered.toInt ∧ iO_answered.toInt ≤ 1) (b_iO_searched : 0 ≤ iO_searched.toInt ∧ iO_searched.toInt ≤ 1) (b_iO_searchedRelaxed : 0 ≤ iO_searchedRelaxed.toInt ∧ iO_searchedRelaxed.toInt ≤ 1) (b_iO_counted : (-1) ≤ iO_counted.toInt ∧ iO_counted.toInt ≤ 64) (b_fO_countedCase : ∀ q : Nat, 0 ≤ (fO_countedCase q).toInt ∧ (fO_countedCase q).toInt ≤ 200000) (b_fO_column : ∀ q : Nat, (-1) ≤ (fO_column q).toInt ∧ (fO_column q).toInt ≤ 8) (b_fO_chosen : ∀ q : Nat, 0 ≤ (fO_chosen q).toInt ∧ (fO_chosen q).toInt ≤ 2) (b_iM_stands : 0 ≤ iM_stands.toInt ∧ iM_stands.toInt ≤ 1) (b_iM_variables : 0 ≤ iM_variables.toInt ∧ iM_variables.toInt ≤ 8) (b_iM_rows : 0 ≤ iM_rows.toInt ∧ iM_rows.toInt ≤ 12) (b_iM_goals : 0 ≤ iM_goals.toInt ∧ iM_goals.toInt ≤ 3) (b_iM_differents : 0 ≤ iM_differents.toInt ∧ iM_differents.toInt ≤ 8) (b_iM_cases : 0 ≤ iM_cases.toInt ∧ iM_cases.toInt ≤ 200000) (b_fM_ways : ∀ q : Nat, 0 ≤ (fM_ways q).toInt ∧ (fM_ways q).toInt ≤ 3) (b_iM_plainRows : 0 ≤ iM_plainRows.toInt ∧ iM_plainRows.toInt ≤ 12) (b_fM_plainRow : ∀ q : Nat, 0 ≤ (fM_plainRow q).toInt ∧ (fM_plainRow q).toInt ≤ 11) (b_pr : iM_plainRows.toInt ≤ iM_rows.toInt) (b_iQ_rows : 0 ≤ iQ_rows.toInt ∧ iQ_rows.toInt ≤ 40) (b_iQ_allRows : 0 ≤ iQ_allRows.toInt ∧ iQ_allRows.toInt ≤ 40) (b_iQ_columns : 0 ≤ iQ_columns.toInt ∧ iQ_columns.toInt ≤ 40) (b_tb : TbO iQ_rows iQ_allRows iQ_columns) (b_wl : ∀ q : Nat, 0 ≤ (wl q).toInt ∧ (wl q).toInt ≤ 14) (b_wb : ∀ q : Nat, 0 ≤ (wb q).toInt ∧ (wb q).toInt ≤ 1) (hnW : 432 ≤ nW) (sz : Nat) : Met l yX5_forget wsMX5_forget ({ frames := 0, cells := 0, slots := 0, locals := 0 }) (va_Pc [.ref (hO 0)] (fun U => U.heap.size = sz ∧ va_P (dC, dI) vwCl (WO hO aO kO hM hQ hw iO_answered iO_searched iO_searchedRelaxed iO_counted fO_countedCase gO_goalNumber gO_goalScale fO_start fO_column fO_chosen ++ (WM hM aM kM iM_stands iM_variables iM_rows iM_goals iM_differents iM_cases fM_from fM_to fM_whole fM_ways iM_plainRows fM_plainRow fM_kept fM_goalOver fM_goalUnder fM_goalMax fM_different ++ (WQ hQ aQ kQ hw fQ_inside fQ_outside fQ_shut iQ_rows iQ_allRows iQ_columns ++ (WW nW hw lw kw wl wb wG)))) U.heap ∧ va_K (dC, dI) vwCl (tO kO ++ (tM kM ++ (tQ kQ ++ (tW kw)))) U ∧ va_D (fun _ => True) (WO hO aO kO hM hQ hw iO_answered iO_searched iO_searchedRelaxed iO_counted fO_countedCase gO_goalNumber gO_goalScale fO_start fO_column fO_chosen ++ (WM hM aM kM iM_stands iM_variables iM_rows iM_goals iM_differents iM_cases fM_from fM_to fM_whole fM_ways iM_plainRows fM_plainRow fM_kept fM_goalOver fM_goalUnder fM_goalMax fM_different ++ (WQ hQ aQ kQ hw fQ_inside fQ_outside fQ_shut iQ_rows iQ_allRows iQ_columns ++ (WW nW hw lw kw wl wb wG)))))) (va_Qv (fun (u : (Int32) × (Int32) × (Int32)) => (0 ≤ (u.1).toInt ∧ (u.1).toInt ≤ 1) ∧ (0 ≤ (u.2.1).toInt ∧ (u.2.1).toInt ≤ 1) ∧ ((-1) ≤ (u.2.2).toInt ∧ (u.2.2).toInt ≤ 64)) (fun (u : (Int32) × (Int32) × (Int32)) t => va_P (dC, dI) vwCl (WO hO aO kO hM hQ hw (u.1) (u.2.1) iO_searchedRelaxed (u.2.2) fO_countedCase gO_goalNumber gO_goalScale fO_start fO_column fO_chosen ++ (WM hM aM kM iM_stands iM_variables iM_rows iM_goals iM_differents iM_cases fM_from fM_to fM_whole fM_ways iM_plainRows fM_plainRow fM_kept fM_goalOver fM_goalUnder fM_goalMax fM_different ++ (WQ hQ aQ kQ hw fQ_inside fQ_outside fQ_shut iQ_rows iQ_allRows iQ_columns ++ (WW nW hw lw kw wl wb wG)))) t.heap ∧ va_D (va_A (WO hO aO kO hM hQ hw iO_answered iO_searched iO_searchedRelaxed iO_counted fO_countedCase gO_goalNumber gO_goalScale fO_start fO_column fO_chosen ++ (WM hM aM kM iM_stands iM_variables iM_rows iM_goals iM_differents iM_cases fM_from fM_to fM_whole fM_ways iM_plainRows fM_plainRow fM_kept fM_goalOver fM_goalUnder fM_goalMax fM_different ++ (WQ hQ aQ kQ hw fQ_inside fQ_outside fQ_shut iQ_rows iQ_allRows iQ_columns ++ (WW nW hw lw kw wl wb wG)))) sz) (WO hO aO kO hM hQ hw (u.1) (u.2.1) iO_searchedRelaxed (u.2.2) fO_countedCase gO_goalNumber gO_goalScale fO_start fO_column fO_chosen ++ (WM hM aM kM iM_stands iM_variables iM_rows iM_goals iM_differents iM_cases fM_from fM_to fM_whole fM_ways iM_plainRows fM_plainRow fM_kept fM_goalOver fM_goalUnder fM_goalMax fM_different ++ (WQ hQ aQ kQ hw fQ_inside fQ_outside fQ_shut iQ_rows iQ_allRows iQ_columns ++ (WW nW hw lw kw wl wb wG))))) (va_A (WO hO aO kO hM hQ hw iO_answered iO_searched iO_searchedRelaxed iO_counted fO_countedCase gO_goalNumber gO_goalScale fO_start fO_column fO_chosen ++ (WM hM aM kM iM_stands iM_variables iM_rows iM_goals iM_differents iM_cases fM_from fM_to fM_whole fM_ways iM_plainRows fM_plainRow fM_kept fM_goalOver fM_goalUnder fM_goalMax fM_different ++ (WQ hQ aQ kQ hw fQ_inside fQ_outside fQ_shut iQ_rows iQ_allRows iQ_columns ++ (WW nW hw lw kw wl wb wG)))) sz)) 0 0 (va_A (WO hO aO kO hM hQ hw iO_answered iO_searched iO_searchedRelaxed iO_counted fO_countedCase gO_goalNumber gO_goalScale fO_start fO_column fO_chosen ++ (WM hM aM kM iM_stands iM_variables iM_rows iM_goals iM_differents iM_cases fM_from fM_to fM_whole fM_ways iM_plainRows fM_plainRow fM_kept fM_goalOver fM_goalUnder fM_goalMax fM_different ++ (WQ hQ aQ kQ hw fQ_inside fQ_outside fQ_shut iQ_rows iQ_allRows iQ_columns ++ (WW nW hw lw kw wl wb wG)))) sz) := by
  refine Met.ofW (cc := cX5_forget) (maxL := 1) (ret := none) (by decide) rfl ?_
  intro p e s m args below meth c s₁ B hml hv
  obtain ⟨rfl, hsz, hP, hK, hD0⟩ := hv
  have hx := B.exec
  have hb := B.bytes
  have hr := B.returns
  have hts := atoms_spec (ws := wsMX5_forget) B.pre
  have hown : s.vm.findClass RX5 = some m.cls := findClass_of_methodNamed B.named
  have hlocks := B.notSynchronized
  subst hsz
  have hD := hD0.self (sz := s.heap.size)
  generalize hAe : va_A (WO hO aO kO hM hQ hw iO_answered iO_searched iO_searchedRelaxed iO_counted fO_countedCase gO_goalNumber gO_goalScale fO_start fO_column fO_chosen ++ (WM hM aM kM iM_stands iM_variables iM_rows iM_goals iM_differents iM_cases fM_from fM_to fM_whole fM_ways iM_plainRows fM_plainRow fM_kept fM_goalOver fM_goalUnder fM_goalMax fM_different ++ (WQ hQ aQ kQ hw fQ_inside fQ_outside fQ_shut iQ_rows iQ_allRows iQ_columns ++ (WW nW hw lw kw wl wb wG)))) s.heap.size = A at hD ⊢
  have hA : ∀ q : Nat, s.heap.size ≤ q → A q := fun q h => by rw [← hAe]; exact Or.inr h
  have hS : va_S A s.heap s.heap [] := va_S.rf
  have hl := lv_entry ([.ref (hO 0)]) (n := 1) (Nat.le_of_ble_eq_true rfl)
  rw [lg_entry_eq]
  generalize (lg_sl ([.ref (hO 0)]) ++ List.replicate (1 - (lg_sl ([.ref (hO 0)])).length) Slot.unset).toArray = ls at hl ⊢
  have hl : lv_has ls 1 [(0, .ref (hO 0))] := hl
  refine lv_aload_n hx hb dX5_forget_0 rfl (lv_at hl 0 rfl) ?_
  refine lv_iconst (v := 0) hx hb dX5_forget_1 (by decide) ?_
  refine va_put (D := (dC, dI)) (ci := 5) (v := .int 0) (ty := .boolean) (C := RX5) (T := TX5) (N := 19) hx hb hts iwsMX5_forget_in5 tyX5 tyX5_ok nmX5 hown hK hP hD hS 0 rfl rfl 2 (by decide) (hts (.fieldLink RX5 78 "OptimaWorks$Solver" "answered" "Z") (by decide +kernel)) (fun _ h9 => h9) rfl (by decide +kernel) rfl rfl (Nat.le_of_ble_eq_true rfl) dX5_forget_2 (fun H locs hP hD hS => ?_)
  have hP : va_P (dC, dI) vwCl (WO hO aO kO hM hQ hw 0 iO_searched iO_searchedRelaxed iO_counted fO_countedCase gO_goalNumber gO_goalScale fO_start fO_column fO_chosen ++ (WM hM aM kM iM_stands iM_variables iM_rows iM_goals iM_differents iM_cases fM_from fM_to fM_whole fM_ways iM_plainRows fM_plainRow fM_kept fM_goalOver fM_goalUnder fM_goalMax fM_different ++ (WQ hQ aQ kQ hw fQ_inside fQ_outside fQ_shut iQ_rows iQ_allRows iQ_columns ++ (WW nW hw lw kw wl wb wG)))) H := hP
  have hD : va_D A (WO hO aO kO hM hQ hw 0 iO_searched iO_searchedRelaxed iO_counted fO_countedCase gO_goalNumber gO_goalScale fO_start fO_column fO_chosen ++ (WM hM aM kM iM_stands iM_variables iM_rows iM_goals iM_differents iM_cases fM_from fM_to fM_whole fM_ways iM_plainRows fM_plainRow fM_kept fM_goalOver fM_goalUnder fM_goalMax fM_different ++ (WQ hQ aQ kQ hw fQ_inside fQ_outside fQ_shut iQ_rows iQ_allRows iQ_columns ++ (WW nW hw lw kw wl wb wG)))) := hD
  refine lv_aload_n hx hb dX5_forget_5 rfl (lv_at hl 0 rfl) ?_
  refine lv_iconst (v := 0) hx hb dX5_forget_6 (by decide) ?_
  refine va_put (D := (dC, dI)) (ci := 5) (v := .int 0) (ty := .boolean) (C := RX5) (T := TX5) (N := 19) hx hb hts iwsMX5_forget_in5 tyX5 tyX5_ok nmX5 hown hK hP hD hS 0 rfl rfl 3 (by decide) (hts (.fieldLink RX5 82 "OptimaWorks$Solver" "searched" "Z") (by decide +kernel)) (fun _ h9 => h9) rfl (by decide +kernel) rfl rfl (Nat.le_of_ble_eq_true rfl) dX5_forget_7 (fun H locs hP hD hS => ?_)
  have hP : va_P (dC, dI) vwCl (WO hO aO kO hM hQ hw 0 0 iO_searchedRelaxed iO_counted fO_countedCase gO_goalNumber gO_goalScale fO_start fO_column fO_chosen ++ (WM hM aM kM iM_stands iM_variables iM_rows iM_goals iM_differents iM_cases fM_from fM_to fM_whole fM_ways iM_plainRows fM_plainRow fM_kept fM_goalOver fM_goalUnder fM_goalMax fM_different ++ (WQ hQ aQ kQ hw fQ_inside fQ_outside fQ_shut iQ_rows iQ_allRows iQ_columns ++ (WW nW hw lw kw wl wb wG)))) H := hP
  have hD : va_D A (WO hO aO kO hM hQ hw 0 0 iO_searchedRelaxed iO_counted fO_countedCase gO_goalNumber gO_goalScale fO_start fO_column fO_chosen ++ (WM hM aM kM iM_stands iM_variables iM_rows iM_goals iM_differents iM_cases fM_from fM_to fM_whole fM_ways iM_plainRows fM_plainRow fM_kept fM_goalOver fM_goalUnder fM_goalMax fM_different ++ (WQ hQ aQ kQ hw fQ_inside fQ_outside fQ_shut iQ_rows iQ_allRows iQ_columns ++ (WW nW hw lw kw wl wb wG)))) := hD
  refine lv_aload_n hx hb dX5_forget_10 rfl (lv_at hl 0 rfl) ?_
  refine lv_iconst (v := (-1)) hx hb dX5_forget_11 (by decide) ?_
  refine va_put (D := (dC, dI)) (ci := 5) (v := .int (-1)) (ty := .int) (C := RX5) (T := TX5) (N := 19) hx hb hts iwsMX5_forget_in5 tyX5 tyX5_ok nmX5 hown hK hP hD hS 0 rfl rfl 5 (by decide) (hts (.fieldLink RX5 18 "OptimaWorks$Solver" "counted" "I") (by decide +kernel)) (fun _ h9 => h9) rfl (by decide +kernel) rfl rfl (Nat.le_of_ble_eq_true rfl) dX5_forget_12 (fun H locs hP hD hS => ?_)
  have hP : va_P (dC, dI) vwCl (WO hO aO kO hM hQ hw 0 0 iO_searchedRelaxed (-1) fO_countedCase gO_goalNumber gO_goalScale fO_start fO_column fO_chosen ++ (WM hM aM kM iM_stands iM_variables iM_rows iM_goals iM_differents iM_cases fM_from fM_to fM_whole fM_ways iM_plainRows fM_plainRow fM_kept fM_goalOver fM_goalUnder fM_goalMax fM_different ++ (WQ hQ aQ kQ hw fQ_inside fQ_outside fQ_shut iQ_rows iQ_allRows iQ_columns ++ (WW nW hw lw kw wl wb wG)))) H := hP
  have hD : va_D A (WO hO aO kO hM hQ hw 0 0 iO_searchedRelaxed (-1) fO_countedCase gO_goalNumber gO_goalScale fO_start fO_column fO_chosen ++ (WM hM aM kM iM_stands iM_variables iM_rows iM_goals iM_differents iM_cases fM_from fM_to fM_whole fM_ways iM_plainRows fM_plainRow fM_kept fM_goalOver fM_goalUnder fM_goalMax fM_different ++ (WQ hQ aQ kQ hw fQ_inside fQ_outside fQ_shut iQ_rows iQ_allRows iQ_columns ++ (WW nW hw lw kw wl wb wG)))) := hD
  refine W.widen (k := 0) (n := 0) (by decide +kernel) (by decide +kernel) ?_
  exact W.vret hx hb hr (fun t9_ ht hW => ⟨⟨(0, 0, (-1)), rfl, ⟨(by (try dsimp only); exact (show 0 ≤ (0 : Int32).toInt ∧ (0 : Int32).toInt ≤ 1 from by decide)), (by (try dsimp only); exact (show 0 ≤ (0 : Int32).toInt ∧ (0 : Int32).toInt ≤ 1 from by decide)), (by (try dsimp only); exact (show (-1) ≤ ((-1) : Int32).toInt ∧ ((-1) : Int32).toInt ≤ 64 from by decide))⟩, by rw [ht]; exact hP, hD⟩, hS.F ht⟩) hS.2.2 dX5_forget_15
theorem dX5_scaleOf_0 : decode cX5_scaleOf 0 = .ok (.aload_n 0, 1) := dk_42 (by decide +kernel)
theorem dX5_scaleOf_1 : decode cX5_scaleOf 1 = .ok (.getfield 32, 3) := dk_180 (by decide +kernel)
theorem dX5_scaleOf_4 : decode cX5_scaleOf 4 = .ok (.iload_n 1, 1) := dk_27 (by decide +kernel)
theorem dX5_scaleOf_5 : decode cX5_scaleOf 5 = .ok (.laload, 1) := dk_47 (by decide +kernel)
theorem dX5_scaleOf_6 : decode cX5_scaleOf 6 = .ok (.lreturn, 1) := dk_173 (by decide +kernel)
def wsMX5_scaleOf : List Cond := .code yX5_scaleOf cX5_scaleOf 2 (some .long) :: ([.fieldLink RX5 32 "OptimaWorks$Solver" "goalScale" "[J"] ++ wsX50)
theorem iwsMX5_scaleOf_in5 : ∀ w ∈ wsX50, w ∈ wsMX5_scaleOf := fun _ h => List.mem_cons_of_mem _ (List.mem_append_right _ h)
theorem gdwsMX5_scaleOf : wsMX5_scaleOf.all goodWord = true := gdC rfl (gdA (by decide +kernel : ([.fieldLink RX5 32 "OptimaWorks$Solver" "goalScale" "[J"] : List Cond).all goodWord = true) gdwsX50)
set_option maxHeartbeats 4000000 in
set_option maxRecDepth 100000 in
/-- a scale -/
theorem m_X5_scaleOf (l : Launch) (dC : Nat → ClassId) (dI : Nat → Nat → Nat) (hO : Nat → Nat) (aO : Nat → Nat) (kO : Nat → ClassId) (hM : Nat → Nat) (hQ : Nat → Nat) (hw : Nat → Nat) (iO_answered : Int32) (iO_searched : Int32) (iO_searchedRelaxed : Int32) (iO_counted : Int32) (fO_countedCase : Nat → Int32) (gO_goalNumber : Nat → Int64) (gO_goalScale : Nat → Int64) (fO_start : Nat → Int32) (fO_column : Nat → Int32) (fO_chosen : Nat → Int32) (aM : Nat → Nat) (kM : Nat → ClassId) (iM_stands : Int32) (iM_variables : Int32) (iM_rows : Int32) (iM_goals : Int32) (iM_differents : Int32) (iM_cases : Int32) (fM_from : Nat → Int32) (fM_to : Nat → Int32) (fM_whole : Nat → Int32) (fM_ways : Nat → Int32) (iM_plainRows : Int32) (fM_plainRow : Nat → Int32) (fM_kept : Nat → Int32) (fM_goalOver : Nat → Int32) (fM_goalUnder : Nat → Int32) (fM_goalMax : Nat → Int32) (fM_different : Nat → Int32) (aQ : Nat → Nat) (kQ : Nat → ClassId) (fQ_inside : Nat → Int32) (fQ_outside : Nat → Int32) (fQ_shut : Nat → Int32) (iQ_rows : Int32) (iQ_allRows : Int32) (iQ_columns : Int32) (nW : Nat) (lw : Nat → Nat) (kw : ClassId) (wl : Nat → Int32) (wb : Nat → Int32) (wG : Nat → Nat → Int64) (p1 : Int32) (b_iO_answered : 0 ≤ iO_answered.toInt ∧ iO_answered.toInt ≤ 1) (b_iO_searched : 0 ≤ iO_searched.toInt ∧ iO_searched.toInt ≤ 1) (b_iO_searchedRelaxed : 0 ≤ iO_searchedRelaxed.toInt ∧ iO_searchedRelaxed.toInt ≤ 1) (b_iO_counted : (-1) ≤ iO_counted.toInt ∧ iO_counted.toInt ≤ 64) (b_fO_countedCase : ∀ q : Nat, 0 ≤ (fO_countedCase q).toInt ∧ (fO_countedCase q).toInt ≤ 200000) (b_fO_column : ∀ q : Nat, (-1) ≤ (fO_column q).toInt ∧ (fO_column q).toInt ≤ 8) (b_fO_chosen : ∀ q : Nat, 0 ≤ (fO_chosen q).toInt ∧ (fO_chosen q).toInt ≤ 2) (b_iM_stands : 0 ≤ iM_stands.toInt ∧ iM_stands.toInt ≤ 1) (b_iM_variables : 0 ≤ iM_variables.toInt ∧ iM_variables.toInt ≤ 8) (b_iM_rows : 0 ≤ iM_rows.toInt ∧ iM_rows.toInt ≤ 12) (b_iM_goals : 0 ≤ iM_goals.toInt ∧ iM_goals.toInt ≤ 3) (b_iM_differents : 0 ≤ iM_differents.toInt ∧ iM_differents.toInt ≤ 8) (b_iM_cases : 0 ≤ iM_cases.toInt ∧ iM_cases.toInt ≤ 200000) (b_fM_ways : ∀ q : Nat, 0 ≤ (fM_ways q).toInt ∧ (fM_ways q).toInt ≤ 3) (b_iM_plainRows : 0 ≤ iM_plainRows.toInt ∧ iM_plainRows.toInt ≤ 12) (b_fM_plainRow : ∀ q : Nat, 0 ≤ (fM_plainRow q).toInt ∧ (fM_plainRow q).toInt ≤ 11) (b_pr : iM_plainRows.toInt ≤ iM_rows.toInt) (b_iQ_rows : 0 ≤ iQ_rows.toInt ∧ iQ_rows.toInt ≤ 40) (b_iQ_allRows : 0 ≤ iQ_allRows.toInt ∧ iQ_allRows.toInt ≤ 40) (b_iQ_columns : 0 ≤ iQ_columns.toInt ∧ iQ_columns.toInt ≤ 40) (b_tb : TbO iQ_rows iQ_allRows iQ_columns) (b_wl : ∀ q : Nat, 0 ≤ (wl q).toInt ∧ (wl q).toInt ≤ 14) (b_wb : ∀ q : Nat, 0 ≤ (wb q).toInt ∧ (wb q).toInt ≤ 1) (b_p1 : 0 ≤ p1.toInt ∧ p1.toInt ≤ 2) (hnW : 432 ≤ nW) (sz : Nat) : Met l yX5_scaleOf wsMX5_scaleOf ({ frames := 0, cells := 0, slots := 0, locals := 0 }) (va_Pc [.ref (hO 0), .int p1] (fun U => U.heap.size = sz ∧ va_P (dC, dI) vwCl (WO hO aO kO hM hQ hw iO_answered iO_searched iO_searchedRelaxed iO_counted fO_countedCase gO_goalNumber gO_goalScale fO_start fO_column fO_chosen ++ (WM hM aM kM iM_stands iM_variables iM_rows iM_goals iM_differents iM_cases fM_from fM_to fM_whole fM_ways iM_plainRows fM_plainRow fM_kept fM_goalOver fM_goalUnder fM_goalMax fM_different ++ (WQ hQ aQ kQ hw fQ_inside fQ_outside fQ_shut iQ_rows iQ_allRows iQ_columns ++ (WW nW hw lw kw wl wb wG)))) U.heap ∧ va_K (dC, dI) vwCl (tO kO ++ (tM kM ++ (tQ kQ ++ (tW kw)))) U ∧ va_D (fun _ => True) (WO hO aO kO hM hQ hw iO_answered iO_searched iO_searchedRelaxed iO_counted fO_countedCase gO_goalNumber gO_goalScale fO_start fO_column fO_chosen ++ (WM hM aM kM iM_stands iM_variables iM_rows iM_goals iM_differents iM_cases fM_from fM_to fM_whole fM_ways iM_plainRows fM_plainRow fM_kept fM_goalOver fM_goalUnder fM_goalMax fM_different ++ (WQ hQ aQ kQ hw fQ_inside fQ_outside fQ_shut iQ_rows iQ_allRows iQ_columns ++ (WW nW hw lw kw wl wb wG)))))) (va_Ql (fun (r : Int64) (u : Unit) => True) (fun (u : Unit) t => va_P (dC, dI) vwCl (WO hO aO kO hM hQ hw iO_answered iO_searched iO_searchedRelaxed iO_counted fO_countedCase gO_goalNumber gO_goalScale fO_start fO_column fO_chosen ++ (WM hM aM kM iM_stands iM_variables iM_rows iM_goals iM_differents iM_cases fM_from fM_to fM_whole fM_ways iM_plainRows fM_plainRow fM_kept fM_goalOver fM_goalUnder fM_goalMax fM_different ++ (WQ hQ aQ kQ hw fQ_inside fQ_outside fQ_shut iQ_rows iQ_allRows iQ_columns ++ (WW nW hw lw kw wl wb wG)))) t.heap ∧ va_D (va_A (WO hO aO kO hM hQ hw iO_answered iO_searched iO_searchedRelaxed iO_counted fO_countedCase gO_goalNumber gO_goalScale fO_start fO_column fO_chosen ++ (WM hM aM kM iM_stands iM_variables iM_rows iM_goals iM_differents iM_cases fM_from fM_to fM_whole fM_ways iM_plainRows fM_plainRow fM_kept fM_goalOver fM_goalUnder fM_goalMax fM_different ++ (WQ hQ aQ kQ hw fQ_inside fQ_outside fQ_shut iQ_rows iQ_allRows iQ_columns ++ (WW nW hw lw kw wl wb wG)))) sz) (WO hO aO kO hM hQ hw iO_answered iO_searched iO_searchedRelaxed iO_counted fO_countedCase gO_goalNumber gO_goalScale fO_start fO_column fO_chosen ++ (WM hM aM kM iM_stands iM_variables iM_rows iM_goals iM_differents iM_cases fM_from fM_to fM_whole fM_ways iM_plainRows fM_plainRow fM_kept fM_goalOver fM_goalUnder fM_goalMax fM_different ++ (WQ hQ aQ kQ hw fQ_inside fQ_outside fQ_shut iQ_rows iQ_allRows iQ_columns ++ (WW nW hw lw kw wl wb wG))))) (va_A (WO hO aO kO hM hQ hw iO_answered iO_searched iO_searchedRelaxed iO_counted fO_countedCase gO_goalNumber gO_goalScale fO_start fO_column fO_chosen ++ (WM hM aM kM iM_stands iM_variables iM_rows iM_goals iM_differents iM_cases fM_from fM_to fM_whole fM_ways iM_plainRows fM_plainRow fM_kept fM_goalOver fM_goalUnder fM_goalMax fM_different ++ (WQ hQ aQ kQ hw fQ_inside fQ_outside fQ_shut iQ_rows iQ_allRows iQ_columns ++ (WW nW hw lw kw wl wb wG)))) sz)) 0 0 (va_A (WO hO aO kO hM hQ hw iO_answered iO_searched iO_searchedRelaxed iO_counted fO_countedCase gO_goalNumber gO_goalScale fO_start fO_column fO_chosen ++ (WM hM aM kM iM_stands iM_variables iM_rows iM_goals iM_differents iM_cases fM_from fM_to fM_whole fM_ways iM_plainRows fM_plainRow fM_kept fM_goalOver fM_goalUnder fM_goalMax fM_different ++ (WQ hQ aQ kQ hw fQ_inside fQ_outside fQ_shut iQ_rows iQ_allRows iQ_columns ++ (WW nW hw lw kw wl wb wG)))) sz) := by
  refine Met.ofW (cc := cX5_scaleOf) (maxL := 2) (ret := (some .long)) (by decide) rfl ?_
  intro p e s m args below meth c s₁ B hml hv
  obtain ⟨rfl, hsz, hP, hK, hD0⟩ := hv
  have hx := B.exec
  have hb := B.bytes
  have hr := B.returns
  have hts := atoms_spec (ws := wsMX5_scaleOf) B.pre
  have hown : s.vm.findClass RX5 = some m.cls := findClass_of_methodNamed B.named
  have hlocks := B.notSynchronized
  subst hsz
  have hD := hD0.self (sz := s.heap.size)
  generalize hAe : va_A (WO hO aO kO hM hQ hw iO_answered iO_searched iO_searchedRelaxed iO_counted fO_countedCase gO_goalNumber gO_goalScale fO_start fO_column fO_chosen ++ (WM hM aM kM iM_stands iM_variables iM_rows iM_goals iM_differents iM_cases fM_from fM_to fM_whole fM_ways iM_plainRows fM_plainRow fM_kept fM_goalOver fM_goalUnder fM_goalMax fM_different ++ (WQ hQ aQ kQ hw fQ_inside fQ_outside fQ_shut iQ_rows iQ_allRows iQ_columns ++ (WW nW hw lw kw wl wb wG)))) s.heap.size = A at hD ⊢
  have hA : ∀ q : Nat, s.heap.size ≤ q → A q := fun q h => by rw [← hAe]; exact Or.inr h
  have hS : va_S A s.heap s.heap [] := va_S.rf
  have hl := lv_entry ([.ref (hO 0), .int p1]) (n := 2) (Nat.le_of_ble_eq_true rfl)
  rw [lg_entry_eq]
  generalize (lg_sl ([.ref (hO 0), .int p1]) ++ List.replicate (2 - (lg_sl ([.ref (hO 0), .int p1])).length) Slot.unset).toArray = ls at hl ⊢
  have hl : lv_has ls 2 [(0, .ref (hO 0)), (1, .int p1)] := hl
  refine lv_aload_n hx hb dX5_scaleOf_0 rfl (lv_at hl 0 rfl) ?_
  refine va_get (D := (dC, dI)) (ci := 5) (v := .ref (aO 2)) (C := RX5) (T := TX5) (N := 19) hx hb hts iwsMX5_scaleOf_in5 hown hK hP 0 rfl rfl 8 (by decide) (hts (.fieldLink RX5 32 "OptimaWorks$Solver" "goalScale" "[J") (by decide +kernel)) (fun _ h9 => h9) rfl dX5_scaleOf_1 ?_
  refine lv_iload_n hx hb dX5_scaleOf_4 rfl (lv_at hl 1 rfl) ?_
  refine va_lald (cA := kO 2) (n := 3) (f := gO_goalScale) hx hb hK hP 3 2 rfl rfl (vp_in_iff.mpr ⟨b_p1.1, (Int.lt_of_le_of_lt (b_p1.2) (by decide))⟩) dX5_scaleOf_5 ?_
  refine lv_topl (fun v1 hv1 => ?_)
  clear hv1
  refine W.widen (k := 0) (n := 0) (by decide +kernel) (by decide +kernel) ?_
  exact W.lret (v := v1) hx hb hr (fun t9_ ht hW => ⟨⟨v1, (), rfl, trivial, by rw [ht]; exact hP, hD⟩, hS.F ht⟩) hS.2.2 dX5_scaleOf_6
theorem dX5_scaledNumber_0 : decode cX5_scaledNumber 0 = .ok (.aload_n 0, 1) := dk_42 (by decide +kernel)
theorem dX5_scaledNumber_1 : decode cX5_scaledNumber 1 = .ok (.getfield 28, 3) := dk_180 (by decide +kernel)
theorem dX5_scaledNumber_4 : decode cX5_scaledNumber 4 = .ok (.iload_n 1, 1) := dk_27 (by decide +kernel)
theorem dX5_scaledNumber_5 : decode cX5_scaledNumber 5 = .ok (.bipush 8, 2) := dk_16 (by decide +kernel)
theorem dX5_scaledNumber_7 : decode cX5_scaledNumber 7 = .ok (.imul, 1) := dk_104 (by decide +kernel)
theorem dX5_scaledNumber_8 : decode cX5_scaledNumber 8 = .ok (.iload_n 2, 1) := dk_28 (by decide +kernel)
theorem dX5_scaledNumber_9 : decode cX5_scaledNumber 9 = .ok (.iadd, 1) := dk_96 (by decide +kernel)
theorem dX5_scaledNumber_10 : decode cX5_scaledNumber 10 = .ok (.laload, 1) := dk_47 (by decide +kernel)
theorem dX5_scaledNumber_11 : decode cX5_scaledNumber 11 = .ok (.lreturn, 1) := dk_173 (by decide +kernel)
def wsMX5_scaledNumber : List Cond := .code yX5_scaledNumber cX5_scaledNumber 3 (some .long) :: ([.fieldLink RX5 28 "OptimaWorks$Solver" "goalNumber" "[J"] ++ wsX50)
theorem iwsMX5_scaledNumber_in5 : ∀ w ∈ wsX50, w ∈ wsMX5_scaledNumber := fun _ h => List.mem_cons_of_mem _ (List.mem_append_right _ h)
theorem gdwsMX5_scaledNumber : wsMX5_scaledNumber.all goodWord = true := gdC rfl (gdA (by decide +kernel : ([.fieldLink RX5 28 "OptimaWorks$Solver" "goalNumber" "[J"] : List Cond).all goodWord = true) gdwsX50)
set_option maxHeartbeats 4000000 in
set_option maxRecDepth 100000 in
/-- a scaled number -/
theorem m_X5_scaledNumber (l : Launch) (dC : Nat → ClassId) (dI : Nat → Nat → Nat) (hO : Nat → Nat) (aO : Nat → Nat) (kO : Nat → ClassId) (hM : Nat → Nat) (hQ : Nat → Nat) (hw : Nat → Nat) (iO_answered : Int32) (iO_searched : Int32) (iO_searchedRelaxed : Int32) (iO_counted : Int32) (fO_countedCase : Nat → Int32) (gO_goalNumber : Nat → Int64) (gO_goalScale : Nat → Int64) (fO_start : Nat → Int32) (fO_column : Nat → Int32) (fO_chosen : Nat → Int32) (aM : Nat → Nat) (kM : Nat → ClassId) (iM_stands : Int32) (iM_variables : Int32) (iM_rows : Int32) (iM_goals : Int32) (iM_differents : Int32) (iM_cases : Int32) (fM_from : Nat → Int32) (fM_to : Nat → Int32) (fM_whole : Nat → Int32) (fM_ways : Nat → Int32) (iM_plainRows : Int32) (fM_plainRow : Nat → Int32) (fM_kept : Nat → Int32) (fM_goalOver : Nat → Int32) (fM_goalUnder : Nat → Int32) (fM_goalMax : Nat → Int32) (fM_different : Nat → Int32) (aQ : Nat → Nat) (kQ : Nat → ClassId) (fQ_inside : Nat → Int32) (fQ_outside : Nat → Int32) (fQ_shut : Nat → Int32) (iQ_rows : Int32) (iQ_allRows : Int32) (iQ_columns : Int32) (nW : Nat) (lw : Nat → Nat) (kw : ClassId) (wl : Nat → Int32) (wb : Nat → Int32) (wG : Nat → Nat → Int64) (p1 : Int32) (p2 : Int32) (b_iO_answered : 0 ≤ iO_answered.toInt ∧ iO_answered.toInt ≤ 1) (b_iO_searched : 0 ≤ iO_searched.toInt ∧ iO_searched.toInt ≤ 1) (b_iO_searchedRelaxed : 0 ≤ iO_searchedRelaxed.toInt ∧ iO_searchedRelaxed.toInt ≤ 1) (b_iO_counted : (-1) ≤ iO_counted.toInt ∧ iO_counted.toInt ≤ 64) (b_fO_countedCase : ∀ q : Nat, 0 ≤ (fO_countedCase q).toInt ∧ (fO_countedCase q).toInt ≤ 200000) (b_fO_column : ∀ q : Nat, (-1) ≤ (fO_column q).toInt ∧ (fO_column q).toInt ≤ 8) (b_fO_chosen : ∀ q : Nat, 0 ≤ (fO_chosen q).toInt ∧ (fO_chosen q).toInt ≤ 2) (b_iM_stands : 0 ≤ iM_stands.toInt ∧ iM_stands.toInt ≤ 1) (b_iM_variables : 0 ≤ iM_variables.toInt ∧ iM_variables.toInt ≤ 8) (b_iM_rows : 0 ≤ iM_rows.toInt ∧ iM_rows.toInt ≤ 12) (b_iM_goals : 0 ≤ iM_goals.toInt ∧ iM_goals.toInt ≤ 3) (b_iM_differents : 0 ≤ iM_differents.toInt ∧ iM_differents.toInt ≤ 8) (b_iM_cases : 0 ≤ iM_cases.toInt ∧ iM_cases.toInt ≤ 200000) (b_fM_ways : ∀ q : Nat, 0 ≤ (fM_ways q).toInt ∧ (fM_ways q).toInt ≤ 3) (b_iM_plainRows : 0 ≤ iM_plainRows.toInt ∧ iM_plainRows.toInt ≤ 12) (b_fM_plainRow : ∀ q : Nat, 0 ≤ (fM_plainRow q).toInt ∧ (fM_plainRow q).toInt ≤ 11) (b_pr : iM_plainRows.toInt ≤ iM_rows.toInt) (b_iQ_rows : 0 ≤ iQ_rows.toInt ∧ iQ_rows.toInt ≤ 40) (b_iQ_allRows : 0 ≤ iQ_allRows.toInt ∧ iQ_allRows.toInt ≤ 40) (b_iQ_columns : 0 ≤ iQ_columns.toInt ∧ iQ_columns.toInt ≤ 40) (b_tb : TbO iQ_rows iQ_allRows iQ_columns) (b_wl : ∀ q : Nat, 0 ≤ (wl q).toInt ∧ (wl q).toInt ≤ 14) (b_wb : ∀ q : Nat, 0 ≤ (wb q).toInt ∧ (wb q).toInt ≤ 1) (b_p1 : 0 ≤ p1.toInt ∧ p1.toInt ≤ 2) (b_p2 : 0 ≤ p2.toInt ∧ p2.toInt ≤ 7) (hnW : 432 ≤ nW) (sz : Nat) : Met l yX5_scaledNumber wsMX5_scaledNumber ({ frames := 0, cells := 0, slots := 0, locals := 0 }) (va_Pc [.ref (hO 0), .int p1, .int p2] (fun U => U.heap.size = sz ∧ va_P (dC, dI) vwCl (WO hO aO kO hM hQ hw iO_answered iO_searched iO_searchedRelaxed iO_counted fO_countedCase gO_goalNumber gO_goalScale fO_start fO_column fO_chosen ++ (WM hM aM kM iM_stands iM_variables iM_rows iM_goals iM_differents iM_cases fM_from fM_to fM_whole fM_ways iM_plainRows fM_plainRow fM_kept fM_goalOver fM_goalUnder fM_goalMax fM_different ++ (WQ hQ aQ kQ hw fQ_inside fQ_outside fQ_shut iQ_rows iQ_allRows iQ_columns ++ (WW nW hw lw kw wl wb wG)))) U.heap ∧ va_K (dC, dI) vwCl (tO kO ++ (tM kM ++ (tQ kQ ++ (tW kw)))) U ∧ va_D (fun _ => True) (WO hO aO kO hM hQ hw iO_answered iO_searched iO_searchedRelaxed iO_counted fO_countedCase gO_goalNumber gO_goalScale fO_start fO_column fO_chosen ++ (WM hM aM kM iM_stands iM_variables iM_rows iM_goals iM_differents iM_cases fM_from fM_to fM_whole fM_ways iM_plainRows fM_plainRow fM_kept fM_goalOver fM_goalUnder fM_goalMax fM_different ++ (WQ hQ aQ kQ hw fQ_inside fQ_outside fQ_shut iQ_rows iQ_allRows iQ_columns ++ (WW nW hw lw kw wl wb wG)))))) (va_Ql (fun (r : Int64) (u : Unit) => True) (fun (u : Unit) t => va_P (dC, dI) vwCl (WO hO aO kO hM hQ hw iO_answered iO_searched iO_searchedRelaxed iO_counted fO_countedCase gO_goalNumber gO_goalScale fO_start fO_column fO_chosen ++ (WM hM aM kM iM_stands iM_variables iM_rows iM_goals iM_differents iM_cases fM_from fM_to fM_whole fM_ways iM_plainRows fM_plainRow fM_kept fM_goalOver fM_goalUnder fM_goalMax fM_different ++ (WQ hQ aQ kQ hw fQ_inside fQ_outside fQ_shut iQ_rows iQ_allRows iQ_columns ++ (WW nW hw lw kw wl wb wG)))) t.heap ∧ va_D (va_A (WO hO aO kO hM hQ hw iO_answered iO_searched iO_searchedRelaxed iO_counted fO_countedCase gO_goalNumber gO_goalScale fO_start fO_column fO_chosen ++ (WM hM aM kM iM_stands iM_variables iM_rows iM_goals iM_differents iM_cases fM_from fM_to fM_whole fM_ways iM_plainRows fM_plainRow fM_kept fM_goalOver fM_goalUnder fM_goalMax fM_different ++ (WQ hQ aQ kQ hw fQ_inside fQ_outside fQ_shut iQ_rows iQ_allRows iQ_columns ++ (WW nW hw lw kw wl wb wG)))) sz) (WO hO aO kO hM hQ hw iO_answered iO_searched iO_searchedRelaxed iO_counted fO_countedCase gO_goalNumber gO_goalScale fO_start fO_column fO_chosen ++ (WM hM aM kM iM_stands iM_variables iM_rows iM_goals iM_differents iM_cases fM_from fM_to fM_whole fM_ways iM_plainRows fM_plainRow fM_kept fM_goalOver fM_goalUnder fM_goalMax fM_different ++ (WQ hQ aQ kQ hw fQ_inside fQ_outside fQ_shut iQ_rows iQ_allRows iQ_columns ++ (WW nW hw lw kw wl wb wG))))) (va_A (WO hO aO kO hM hQ hw iO_answered iO_searched iO_searchedRelaxed iO_counted fO_countedCase gO_goalNumber gO_goalScale fO_start fO_column fO_chosen ++ (WM hM aM kM iM_stands iM_variables iM_rows iM_goals iM_differents iM_cases fM_from fM_to fM_whole fM_ways iM_plainRows fM_plainRow fM_kept fM_goalOver fM_goalUnder fM_goalMax fM_different ++ (WQ hQ aQ kQ hw fQ_inside fQ_outside fQ_shut iQ_rows iQ_allRows iQ_columns ++ (WW nW hw lw kw wl wb wG)))) sz)) 0 0 (va_A (WO hO aO kO hM hQ hw iO_answered iO_searched iO_searchedRelaxed iO_counted fO_countedCase gO_goalNumber gO_goalScale fO_start fO_column fO_chosen ++ (WM hM aM kM iM_stands iM_variables iM_rows iM_goals iM_differents iM_cases fM_from fM_to fM_whole fM_ways iM_plainRows fM_plainRow fM_kept fM_goalOver fM_goalUnder fM_goalMax fM_different ++ (WQ hQ aQ kQ hw fQ_inside fQ_outside fQ_shut iQ_rows iQ_allRows iQ_columns ++ (WW nW hw lw kw wl wb wG)))) sz) := by
  refine Met.ofW (cc := cX5_scaledNumber) (maxL := 3) (ret := (some .long)) (by decide) rfl ?_
  intro p e s m args below meth c s₁ B hml hv
  obtain ⟨rfl, hsz, hP, hK, hD0⟩ := hv
  have hx := B.exec
  have hb := B.bytes
  have hr := B.returns
  have hts := atoms_spec (ws := wsMX5_scaledNumber) B.pre
  have hown : s.vm.findClass RX5 = some m.cls := findClass_of_methodNamed B.named
  have hlocks := B.notSynchronized
  subst hsz
  have hD := hD0.self (sz := s.heap.size)
  generalize hAe : va_A (WO hO aO kO hM hQ hw iO_answered iO_searched iO_searchedRelaxed iO_counted fO_countedCase gO_goalNumber gO_goalScale fO_start fO_column fO_chosen ++ (WM hM aM kM iM_stands iM_variables iM_rows iM_goals iM_differents iM_cases fM_from fM_to fM_whole fM_ways iM_plainRows fM_plainRow fM_kept fM_goalOver fM_goalUnder fM_goalMax fM_different ++ (WQ hQ aQ kQ hw fQ_inside fQ_outside fQ_shut iQ_rows iQ_allRows iQ_columns ++ (WW nW hw lw kw wl wb wG)))) s.heap.size = A at hD ⊢
  have hA : ∀ q : Nat, s.heap.size ≤ q → A q := fun q h => by rw [← hAe]; exact Or.inr h
  have hS : va_S A s.heap s.heap [] := va_S.rf
  have hl := lv_entry ([.ref (hO 0), .int p1, .int p2]) (n := 3) (Nat.le_of_ble_eq_true rfl)
  rw [lg_entry_eq]
  generalize (lg_sl ([.ref (hO 0), .int p1, .int p2]) ++ List.replicate (3 - (lg_sl ([.ref (hO 0), .int p1, .int p2])).length) Slot.unset).toArray = ls at hl ⊢
  have hl : lv_has ls 3 [(0, .ref (hO 0)), (1, .int p1), (2, .int p2)] := hl
  refine lv_aload_n hx hb dX5_scaledNumber_0 rfl (lv_at hl 0 rfl) ?_
  refine va_get (D := (dC, dI)) (ci := 5) (v := .ref (aO 1)) (C := RX5) (T := TX5) (N := 19) hx hb hts iwsMX5_scaledNumber_in5 hown hK hP 0 rfl rfl 7 (by decide) (hts (.fieldLink RX5 28 "OptimaWorks$Solver" "goalNumber" "[J") (by decide +kernel)) (fun _ h9 => h9) rfl dX5_scaledNumber_1 ?_
  refine lv_iload_n hx hb dX5_scaledNumber_4 rfl (lv_at hl 1 rfl) ?_
  refine lv_bipush (v := 8) hx hb dX5_scaledNumber_5 (by decide) ?_
  refine lv_imul hx hb dX5_scaledNumber_7 ?_
  refine lv_topi (fun y1 hy1 => ?_)
  obtain rfl : (iI (p1.toInt * 8)) = y1 := (hy1.trans (iI_mul2 (iI_of _) (by decide : (8 : Int32) = iI 8))).symm
  refine lv_iload_n hx hb dX5_scaledNumber_8 rfl (lv_at hl 2 rfl) ?_
  refine lv_iadd hx hb dX5_scaledNumber_9 ?_
  refine lv_topi (fun y2 hy2 => ?_)
  obtain rfl : (iI ((p1.toInt * 8) + p2.toInt)) = y2 := (hy2.trans (iI_add2 rfl (iI_of _))).symm
  refine va_lald (cA := kO 1) (n := 24) (f := gO_goalNumber) hx hb hK hP 2 1 rfl rfl (vp_iI (Int.le_trans (by decide) (Int.add_le_add (Int.mul_le_mul_of_nonneg_right (b_p1.1) (by decide)) (b_p2.1))) (Int.lt_of_le_of_lt (Int.add_le_add (Int.mul_le_mul_of_nonneg_right (b_p1.2) (by decide)) (b_p2.2)) (by decide)) (by decide)) dX5_scaledNumber_10 ?_
  refine lv_topl (fun v3 hv3 => ?_)
  clear hv3
  refine W.widen (k := 0) (n := 0) (by decide +kernel) (by decide +kernel) ?_
  exact W.lret (v := v3) hx hb hr (fun t9_ ht hW => ⟨⟨v3, (), rfl, trivial, by rw [ht]; exact hP, hD⟩, hS.F ht⟩) hS.2.2 dX5_scaledNumber_11
theorem dX5_scaleGoals_0 : decode cX5_scaleGoals 0 = .ok (.iconst 0, 1) := dk_3 (by decide +kernel)
theorem dX5_scaleGoals_1 : decode cX5_scaleGoals 1 = .ok (.istore_n 1, 1) := dk_60 (by decide +kernel)
theorem dX5_scaleGoals_2 : decode cX5_scaleGoals 2 = .ok (.iload_n 1, 1) := dk_27 (by decide +kernel)
theorem dX5_scaleGoals_3 : decode cX5_scaleGoals 3 = .ok (.aload_n 0, 1) := dk_42 (by decide +kernel)
theorem dX5_scaleGoals_4 : decode cX5_scaleGoals 4 = .ok (.getfield 74, 3) := dk_180 (by decide +kernel)
theorem dX5_scaleGoals_7 : decode cX5_scaleGoals 7 = .ok (.getfield 98, 3) := dk_180 (by decide +kernel)
theorem dX5_scaleGoals_10 : decode cX5_scaleGoals 10 = .ok (.if_icmp .ge 174, 3) := dk_162 (by decide +kernel)
theorem dX5_scaleGoals_13 : decode cX5_scaleGoals 13 = .ok (.lconst 1, 1) := dk_10 (by decide +kernel)
theorem dX5_scaleGoals_14 : decode cX5_scaleGoals 14 = .ok (.lstore_n 2, 1) := dk_65 (by decide +kernel)
theorem dX5_scaleGoals_15 : decode cX5_scaleGoals 15 = .ok (.iconst 1, 1) := dk_4 (by decide +kernel)
theorem dX5_scaleGoals_16 : decode cX5_scaleGoals 16 = .ok (.istore 4, 2) := dk_54 (by decide +kernel)
theorem dX5_scaleGoals_18 : decode cX5_scaleGoals 18 = .ok (.iload 4, 2) := dk_21 (by decide +kernel)
theorem dX5_scaleGoals_20 : decode cX5_scaleGoals 20 = .ok (.aload_n 0, 1) := dk_42 (by decide +kernel)
theorem dX5_scaleGoals_21 : decode cX5_scaleGoals 21 = .ok (.getfield 74, 3) := dk_180 (by decide +kernel)
theorem dX5_scaleGoals_24 : decode cX5_scaleGoals 24 = .ok (.getfield 112, 3) := dk_180 (by decide +kernel)
theorem dX5_scaleGoals_27 : decode cX5_scaleGoals 27 = .ok (.if_icmp .gt 40, 3) := dk_163 (by decide +kernel)
theorem dX5_scaleGoals_30 : decode cX5_scaleGoals 30 = .ok (.aload_n 0, 1) := dk_42 (by decide +kernel)
theorem dX5_scaleGoals_31 : decode cX5_scaleGoals 31 = .ok (.getfield 74, 3) := dk_180 (by decide +kernel)
theorem dX5_scaleGoals_34 : decode cX5_scaleGoals 34 = .ok (.getfield 115, 3) := dk_180 (by decide +kernel)
theorem dX5_scaleGoals_37 : decode cX5_scaleGoals 37 = .ok (.iload_n 1, 1) := dk_27 (by decide +kernel)
theorem dX5_scaleGoals_38 : decode cX5_scaleGoals 38 = .ok (.bipush 9, 2) := dk_16 (by decide +kernel)
theorem dX5_scaleGoals_40 : decode cX5_scaleGoals 40 = .ok (.imul, 1) := dk_104 (by decide +kernel)
theorem dX5_scaleGoals_41 : decode cX5_scaleGoals 41 = .ok (.iload 4, 2) := dk_21 (by decide +kernel)
theorem dX5_scaleGoals_43 : decode cX5_scaleGoals 43 = .ok (.iadd, 1) := dk_96 (by decide +kernel)
theorem dX5_scaleGoals_44 : decode cX5_scaleGoals 44 = .ok (.iaload, 1) := dk_46 (by decide +kernel)
theorem dX5_scaleGoals_45 : decode cX5_scaleGoals 45 = .ok (.istore 5, 2) := dk_54 (by decide +kernel)
theorem dX5_scaleGoals_47 : decode cX5_scaleGoals 47 = .ok (.lload_n 2, 1) := dk_32 (by decide +kernel)
theorem dX5_scaleGoals_48 : decode cX5_scaleGoals 48 = .ok (.iload 5, 2) := dk_21 (by decide +kernel)
theorem dX5_scaleGoals_50 : decode cX5_scaleGoals 50 = .ok (.i2l, 1) := dk_133 (by decide +kernel)
theorem dX5_scaleGoals_51 : decode cX5_scaleGoals 51 = .ok (.lload_n 2, 1) := dk_32 (by decide +kernel)
theorem dX5_scaleGoals_52 : decode cX5_scaleGoals 52 = .ok (.iload 5, 2) := dk_21 (by decide +kernel)
theorem dX5_scaleGoals_54 : decode cX5_scaleGoals 54 = .ok (.i2l, 1) := dk_133 (by decide +kernel)
theorem dX5_scaleGoals_55 : decode cX5_scaleGoals 55 = .ok (.invokestatic 118, 3) := dk_184 (by decide +kernel)
theorem dX5_scaleGoals_58 : decode cX5_scaleGoals 58 = .ok (.ldiv, 1) := dk_109 (by decide +kernel)
theorem dX5_scaleGoals_59 : decode cX5_scaleGoals 59 = .ok (.lmul, 1) := dk_105 (by decide +kernel)
theorem dX5_scaleGoals_60 : decode cX5_scaleGoals 60 = .ok (.lstore_n 2, 1) := dk_65 (by decide +kernel)
theorem dX5_scaleGoals_61 : decode cX5_scaleGoals 61 = .ok (.iinc 4 1, 3) := dk_132 (by decide +kernel)
theorem dX5_scaleGoals_64 : decode cX5_scaleGoals 64 = .ok (.goto (-46), 3) := dk_167 (by decide +kernel)
theorem dX5_scaleGoals_67 : decode cX5_scaleGoals 67 = .ok (.aload_n 0, 1) := dk_42 (by decide +kernel)
theorem dX5_scaleGoals_68 : decode cX5_scaleGoals 68 = .ok (.getfield 32, 3) := dk_180 (by decide +kernel)
theorem dX5_scaleGoals_71 : decode cX5_scaleGoals 71 = .ok (.iload_n 1, 1) := dk_27 (by decide +kernel)
theorem dX5_scaleGoals_72 : decode cX5_scaleGoals 72 = .ok (.lload_n 2, 1) := dk_32 (by decide +kernel)
theorem dX5_scaleGoals_73 : decode cX5_scaleGoals 73 = .ok (.lastore, 1) := dk_80 (by decide +kernel)
theorem dX5_scaleGoals_74 : decode cX5_scaleGoals 74 = .ok (.iconst 0, 1) := dk_3 (by decide +kernel)
theorem dX5_scaleGoals_75 : decode cX5_scaleGoals 75 = .ok (.istore 4, 2) := dk_54 (by decide +kernel)
theorem dX5_scaleGoals_77 : decode cX5_scaleGoals 77 = .ok (.iload 4, 2) := dk_21 (by decide +kernel)
theorem dX5_scaleGoals_79 : decode cX5_scaleGoals 79 = .ok (.aload_n 0, 1) := dk_42 (by decide +kernel)
theorem dX5_scaleGoals_80 : decode cX5_scaleGoals 80 = .ok (.getfield 74, 3) := dk_180 (by decide +kernel)
theorem dX5_scaleGoals_83 : decode cX5_scaleGoals 83 = .ok (.getfield 112, 3) := dk_180 (by decide +kernel)
theorem dX5_scaleGoals_86 : decode cX5_scaleGoals 86 = .ok (.if_icmp .ge 92, 3) := dk_162 (by decide +kernel)
theorem dX5_scaleGoals_89 : decode cX5_scaleGoals 89 = .ok (.iload_n 1, 1) := dk_27 (by decide +kernel)
theorem dX5_scaleGoals_90 : decode cX5_scaleGoals 90 = .ok (.bipush 9, 2) := dk_16 (by decide +kernel)
theorem dX5_scaleGoals_92 : decode cX5_scaleGoals 92 = .ok (.imul, 1) := dk_104 (by decide +kernel)
theorem dX5_scaleGoals_93 : decode cX5_scaleGoals 93 = .ok (.iload 4, 2) := dk_21 (by decide +kernel)
theorem dX5_scaleGoals_95 : decode cX5_scaleGoals 95 = .ok (.iadd, 1) := dk_96 (by decide +kernel)
theorem dX5_scaleGoals_96 : decode cX5_scaleGoals 96 = .ok (.iconst 1, 1) := dk_4 (by decide +kernel)
theorem dX5_scaleGoals_97 : decode cX5_scaleGoals 97 = .ok (.iadd, 1) := dk_96 (by decide +kernel)
theorem dX5_scaleGoals_98 : decode cX5_scaleGoals 98 = .ok (.istore 5, 2) := dk_54 (by decide +kernel)
theorem dX5_scaleGoals_100 : decode cX5_scaleGoals 100 = .ok (.aload_n 0, 1) := dk_42 (by decide +kernel)
theorem dX5_scaleGoals_101 : decode cX5_scaleGoals 101 = .ok (.getfield 74, 3) := dk_180 (by decide +kernel)
theorem dX5_scaleGoals_104 : decode cX5_scaleGoals 104 = .ok (.getfield 115, 3) := dk_180 (by decide +kernel)
theorem dX5_scaleGoals_107 : decode cX5_scaleGoals 107 = .ok (.iload 5, 2) := dk_21 (by decide +kernel)
theorem dX5_scaleGoals_109 : decode cX5_scaleGoals 109 = .ok (.iaload, 1) := dk_46 (by decide +kernel)
theorem dX5_scaleGoals_110 : decode cX5_scaleGoals 110 = .ok (.istore 6, 2) := dk_54 (by decide +kernel)
theorem dX5_scaleGoals_112 : decode cX5_scaleGoals 112 = .ok (.iload 6, 2) := dk_21 (by decide +kernel)
theorem dX5_scaleGoals_114 : decode cX5_scaleGoals 114 = .ok (.ifCond .ne 7, 3) := dk_154 (by decide +kernel)
theorem dX5_scaleGoals_117 : decode cX5_scaleGoals 117 = .ok (.lconst 0, 1) := dk_9 (by decide +kernel)
theorem dX5_scaleGoals_118 : decode cX5_scaleGoals 118 = .ok (.goto 20, 3) := dk_167 (by decide +kernel)
theorem dX5_scaleGoals_121 : decode cX5_scaleGoals 121 = .ok (.lload_n 2, 1) := dk_32 (by decide +kernel)
theorem dX5_scaleGoals_122 : decode cX5_scaleGoals 122 = .ok (.iload 6, 2) := dk_21 (by decide +kernel)
theorem dX5_scaleGoals_124 : decode cX5_scaleGoals 124 = .ok (.i2l, 1) := dk_133 (by decide +kernel)
theorem dX5_scaleGoals_125 : decode cX5_scaleGoals 125 = .ok (.ldiv, 1) := dk_109 (by decide +kernel)
theorem dX5_scaleGoals_126 : decode cX5_scaleGoals 126 = .ok (.aload_n 0, 1) := dk_42 (by decide +kernel)
theorem dX5_scaleGoals_127 : decode cX5_scaleGoals 127 = .ok (.getfield 74, 3) := dk_180 (by decide +kernel)
theorem dX5_scaleGoals_130 : decode cX5_scaleGoals 130 = .ok (.getfield 124, 3) := dk_180 (by decide +kernel)
theorem dX5_scaleGoals_133 : decode cX5_scaleGoals 133 = .ok (.iload 5, 2) := dk_21 (by decide +kernel)
theorem dX5_scaleGoals_135 : decode cX5_scaleGoals 135 = .ok (.iaload, 1) := dk_46 (by decide +kernel)
theorem dX5_scaleGoals_136 : decode cX5_scaleGoals 136 = .ok (.i2l, 1) := dk_133 (by decide +kernel)
theorem dX5_scaleGoals_137 : decode cX5_scaleGoals 137 = .ok (.lmul, 1) := dk_105 (by decide +kernel)
theorem dX5_scaleGoals_138 : decode cX5_scaleGoals 138 = .ok (.lstore 7, 2) := dk_55 (by decide +kernel)
theorem dX5_scaleGoals_140 : decode cX5_scaleGoals 140 = .ok (.aload_n 0, 1) := dk_42 (by decide +kernel)
theorem dX5_scaleGoals_141 : decode cX5_scaleGoals 141 = .ok (.getfield 28, 3) := dk_180 (by decide +kernel)
theorem dX5_scaleGoals_144 : decode cX5_scaleGoals 144 = .ok (.iload_n 1, 1) := dk_27 (by decide +kernel)
theorem dX5_scaleGoals_145 : decode cX5_scaleGoals 145 = .ok (.bipush 8, 2) := dk_16 (by decide +kernel)
theorem dX5_scaleGoals_147 : decode cX5_scaleGoals 147 = .ok (.imul, 1) := dk_104 (by decide +kernel)
theorem dX5_scaleGoals_148 : decode cX5_scaleGoals 148 = .ok (.iload 4, 2) := dk_21 (by decide +kernel)
theorem dX5_scaleGoals_150 : decode cX5_scaleGoals 150 = .ok (.iadd, 1) := dk_96 (by decide +kernel)
theorem dX5_scaleGoals_151 : decode cX5_scaleGoals 151 = .ok (.aload_n 0, 1) := dk_42 (by decide +kernel)
theorem dX5_scaleGoals_152 : decode cX5_scaleGoals 152 = .ok (.getfield 74, 3) := dk_180 (by decide +kernel)
theorem dX5_scaleGoals_155 : decode cX5_scaleGoals 155 = .ok (.getfield 127, 3) := dk_180 (by decide +kernel)
theorem dX5_scaleGoals_158 : decode cX5_scaleGoals 158 = .ok (.iload_n 1, 1) := dk_27 (by decide +kernel)
theorem dX5_scaleGoals_159 : decode cX5_scaleGoals 159 = .ok (.baload, 1) := dk_51 (by decide +kernel)
theorem dX5_scaleGoals_160 : decode cX5_scaleGoals 160 = .ok (.ifCond .eq 9, 3) := dk_153 (by decide +kernel)
theorem dX5_scaleGoals_163 : decode cX5_scaleGoals 163 = .ok (.lload 7, 2) := dk_22 (by decide +kernel)
theorem dX5_scaleGoals_165 : decode cX5_scaleGoals 165 = .ok (.lneg, 1) := dk_117 (by decide +kernel)
theorem dX5_scaleGoals_166 : decode cX5_scaleGoals 166 = .ok (.goto 5, 3) := dk_167 (by decide +kernel)
theorem dX5_scaleGoals_169 : decode cX5_scaleGoals 169 = .ok (.lload 7, 2) := dk_22 (by decide +kernel)
theorem dX5_scaleGoals_171 : decode cX5_scaleGoals 171 = .ok (.lastore, 1) := dk_80 (by decide +kernel)
theorem dX5_scaleGoals_172 : decode cX5_scaleGoals 172 = .ok (.iinc 4 1, 3) := dk_132 (by decide +kernel)
theorem dX5_scaleGoals_175 : decode cX5_scaleGoals 175 = .ok (.goto (-98), 3) := dk_167 (by decide +kernel)
theorem dX5_scaleGoals_178 : decode cX5_scaleGoals 178 = .ok (.iinc 1 1, 3) := dk_132 (by decide +kernel)
theorem dX5_scaleGoals_181 : decode cX5_scaleGoals 181 = .ok (.goto (-179), 3) := dk_167 (by decide +kernel)
theorem dX5_scaleGoals_184 : decode cX5_scaleGoals 184 = .ok (.return_, 1) := dk_177 (by decide +kernel)
def wsMX5_scaleGoals : List Cond := .code yX5_scaleGoals cX5_scaleGoals 9 none :: ([.fieldLink RX5 74 "OptimaWorks$Solver" "model" "LOptimaWorks$Model;", .fieldLink RX5 98 "OptimaWorks$Model" "goals" "I", .fieldLink RX5 112 "OptimaWorks$Model" "variables" "I", .fieldLink RX5 115 "OptimaWorks$Model" "goalUnder" "[I", .fieldLink RX5 32 "OptimaWorks$Solver" "goalScale" "[J", .fieldLink RX5 124 "OptimaWorks$Model" "goalOver" "[I", .fieldLink RX5 28 "OptimaWorks$Solver" "goalNumber" "[J", .fieldLink RX5 127 "OptimaWorks$Model" "goalMax" "[Z"] ++ wsX10 ++ wsX50 ++ (va_wsS RX5 118 yX10_divisor wsMX10_divisor))
theorem iwsMX5_scaleGoals_in1 : ∀ w ∈ wsX10, w ∈ wsMX5_scaleGoals := fun _ h => List.mem_cons_of_mem _ (List.mem_append_left _ (List.mem_append_left _ (List.mem_append_right _ h)))
theorem iwsMX5_scaleGoals_in5 : ∀ w ∈ wsX50, w ∈ wsMX5_scaleGoals := fun _ h => List.mem_cons_of_mem _ (List.mem_append_left _ (List.mem_append_right _ h))
theorem gwsMX5_scaleGoals_0 : GoodIn wsMX5_scaleGoals (va_wsS RX5 118 yX10_divisor wsMX10_divisor) := goodIn_sub (fun _ h => List.mem_cons_of_mem _ (List.mem_append_right _ h)) (gdS (by decide +kernel) gdwsMX10_divisor)
theorem gdwsMX5_scaleGoals : wsMX5_scaleGoals.all goodWord = true := gdC rfl (gdA (gdA (gdA (by decide +kernel : ([.fieldLink RX5 74 "OptimaWorks$Solver" "model" "LOptimaWorks$Model;", .fieldLink RX5 98 "OptimaWorks$Model" "goals" "I", .fieldLink RX5 112 "OptimaWorks$Model" "variables" "I", .fieldLink RX5 115 "OptimaWorks$Model" "goalUnder" "[I", .fieldLink RX5 32 "OptimaWorks$Solver" "goalScale" "[J", .fieldLink RX5 124 "OptimaWorks$Model" "goalOver" "[I", .fieldLink RX5 28 "OptimaWorks$Solver" "goalNumber" "[J", .fieldLink RX5 127 "OptimaWorks$Model" "goalMax" "[Z"] : List Cond).all goodWord = true) gdwsX10) gdwsX50) (gdS (by decide +kernel) gdwsMX10_divisor))
set_option maxHeartbeats 4000000 in
set_option maxRecDepth 100000 in
/-- goals made whole -/
theorem m_X5_scaleGoals (l : Launch) (dC : Nat → ClassId) (dI : Nat → Nat → Nat) (hO : Nat → Nat) (aO : Nat → Nat) (kO : Nat → ClassId) (hM : Nat → Nat) (hQ : Nat → Nat) (hw : Nat → Nat) (iO_answered : Int32) (iO_searched : Int32) (iO_searchedRelaxed : Int32) (iO_counted : Int32) (fO_countedCase : Nat → Int32) (gO_goalNumber : Nat → Int64) (gO_goalScale : Nat → Int64) (fO_start : Nat → Int32) (fO_column : Nat → Int32) (fO_chosen : Nat → Int32) (aM : Nat → Nat) (kM : Nat → ClassId) (iM_stands : Int32) (iM_variables : Int32) (iM_rows : Int32) (iM_goals : Int32) (iM_differents : Int32) (iM_cases : Int32) (fM_from : Nat → Int32) (fM_to : Nat → Int32) (fM_whole : Nat → Int32) (fM_ways : Nat → Int32) (iM_plainRows : Int32) (fM_plainRow : Nat → Int32) (fM_kept : Nat → Int32) (fM_goalOver : Nat → Int32) (fM_goalUnder : Nat → Int32) (fM_goalMax : Nat → Int32) (fM_different : Nat → Int32) (aQ : Nat → Nat) (kQ : Nat → ClassId) (fQ_inside : Nat → Int32) (fQ_outside : Nat → Int32) (fQ_shut : Nat → Int32) (iQ_rows : Int32) (iQ_allRows : Int32) (iQ_columns : Int32) (nW : Nat) (lw : Nat → Nat) (kw : ClassId) (wl : Nat → Int32) (wb : Nat → Int32) (wG : Nat → Nat → Int64) (b_iO_answered : 0 ≤ iO_answered.toInt ∧ iO_answered.toInt ≤ 1) (b_iO_searched : 0 ≤ iO_searched.toInt ∧ iO_searched.toInt ≤ 1) (b_iO_searchedRelaxed : 0 ≤ iO_searchedRelaxed.toInt ∧ iO_searchedRelaxed.toInt ≤ 1) (b_iO_counted : (-1) ≤ iO_counted.toInt ∧ iO_counted.toInt ≤ 64) (b_fO_countedCase : ∀ q : Nat, 0 ≤ (fO_countedCase q).toInt ∧ (fO_countedCase q).toInt ≤ 200000) (b_fO_column : ∀ q : Nat, (-1) ≤ (fO_column q).toInt ∧ (fO_column q).toInt ≤ 8) (b_fO_chosen : ∀ q : Nat, 0 ≤ (fO_chosen q).toInt ∧ (fO_chosen q).toInt ≤ 2) (b_iM_stands : 0 ≤ iM_stands.toInt ∧ iM_stands.toInt ≤ 1) (b_iM_variables : 0 ≤ iM_variables.toInt ∧ iM_variables.toInt ≤ 8) (b_iM_rows : 0 ≤ iM_rows.toInt ∧ iM_rows.toInt ≤ 12) (b_iM_goals : 0 ≤ iM_goals.toInt ∧ iM_goals.toInt ≤ 3) (b_iM_differents : 0 ≤ iM_differents.toInt ∧ iM_differents.toInt ≤ 8) (b_iM_cases : 0 ≤ iM_cases.toInt ∧ iM_cases.toInt ≤ 200000) (b_fM_ways : ∀ q : Nat, 0 ≤ (fM_ways q).toInt ∧ (fM_ways q).toInt ≤ 3) (b_iM_plainRows : 0 ≤ iM_plainRows.toInt ∧ iM_plainRows.toInt ≤ 12) (b_fM_plainRow : ∀ q : Nat, 0 ≤ (fM_plainRow q).toInt ∧ (fM_plainRow q).toInt ≤ 11) (b_pr : iM_plainRows.toInt ≤ iM_rows.toInt) (b_iQ_rows : 0 ≤ iQ_rows.toInt ∧ iQ_rows.toInt ≤ 40) (b_iQ_allRows : 0 ≤ iQ_allRows.toInt ∧ iQ_allRows.toInt ≤ 40) (b_iQ_columns : 0 ≤ iQ_columns.toInt ∧ iQ_columns.toInt ≤ 40) (b_tb : TbO iQ_rows iQ_allRows iQ_columns) (b_wl : ∀ q : Nat, 0 ≤ (wl q).toInt ∧ (wl q).toInt ≤ 14) (b_wb : ∀ q : Nat, 0 ≤ (wb q).toInt ∧ (wb q).toInt ≤ 1) (hnW : 432 ≤ nW) (sz : Nat) : Met l yX5_scaleGoals wsMX5_scaleGoals ({ frames := 2, cells := 0, slots := 0, locals := 43 }) (va_Pc [.ref (hO 0)] (fun U => U.heap.size = sz ∧ va_P (dC, dI) vwCl (WO hO aO kO hM hQ hw iO_answered iO_searched iO_searchedRelaxed iO_counted fO_countedCase gO_goalNumber gO_goalScale fO_start fO_column fO_chosen ++ (WM hM aM kM iM_stands iM_variables iM_rows iM_goals iM_differents iM_cases fM_from fM_to fM_whole fM_ways iM_plainRows fM_plainRow fM_kept fM_goalOver fM_goalUnder fM_goalMax fM_different ++ (WQ hQ aQ kQ hw fQ_inside fQ_outside fQ_shut iQ_rows iQ_allRows iQ_columns ++ (WW nW hw lw kw wl wb wG)))) U.heap ∧ va_K (dC, dI) vwCl (tO kO ++ (tM kM ++ (tQ kQ ++ (tW kw)))) U ∧ va_D (fun _ => True) (WO hO aO kO hM hQ hw iO_answered iO_searched iO_searchedRelaxed iO_counted fO_countedCase gO_goalNumber gO_goalScale fO_start fO_column fO_chosen ++ (WM hM aM kM iM_stands iM_variables iM_rows iM_goals iM_differents iM_cases fM_from fM_to fM_whole fM_ways iM_plainRows fM_plainRow fM_kept fM_goalOver fM_goalUnder fM_goalMax fM_different ++ (WQ hQ aQ kQ hw fQ_inside fQ_outside fQ_shut iQ_rows iQ_allRows iQ_columns ++ (WW nW hw lw kw wl wb wG)))))) (va_Qv (fun (u : (Nat → Int64) × (Nat → Int64)) => True) (fun (u : (Nat → Int64) × (Nat → Int64)) t => va_P (dC, dI) vwCl (WO hO aO kO hM hQ hw iO_answered iO_searched iO_searchedRelaxed iO_counted fO_countedCase (u.1) (u.2) fO_start fO_column fO_chosen ++ (WM hM aM kM iM_stands iM_variables iM_rows iM_goals iM_differents iM_cases fM_from fM_to fM_whole fM_ways iM_plainRows fM_plainRow fM_kept fM_goalOver fM_goalUnder fM_goalMax fM_different ++ (WQ hQ aQ kQ hw fQ_inside fQ_outside fQ_shut iQ_rows iQ_allRows iQ_columns ++ (WW nW hw lw kw wl wb wG)))) t.heap ∧ va_D (va_A (WO hO aO kO hM hQ hw iO_answered iO_searched iO_searchedRelaxed iO_counted fO_countedCase gO_goalNumber gO_goalScale fO_start fO_column fO_chosen ++ (WM hM aM kM iM_stands iM_variables iM_rows iM_goals iM_differents iM_cases fM_from fM_to fM_whole fM_ways iM_plainRows fM_plainRow fM_kept fM_goalOver fM_goalUnder fM_goalMax fM_different ++ (WQ hQ aQ kQ hw fQ_inside fQ_outside fQ_shut iQ_rows iQ_allRows iQ_columns ++ (WW nW hw lw kw wl wb wG)))) sz) (WO hO aO kO hM hQ hw iO_answered iO_searched iO_searchedRelaxed iO_counted fO_countedCase (u.1) (u.2) fO_start fO_column fO_chosen ++ (WM hM aM kM iM_stands iM_variables iM_rows iM_goals iM_differents iM_cases fM_from fM_to fM_whole fM_ways iM_plainRows fM_plainRow fM_kept fM_goalOver fM_goalUnder fM_goalMax fM_different ++ (WQ hQ aQ kQ hw fQ_inside fQ_outside fQ_shut iQ_rows iQ_allRows iQ_columns ++ (WW nW hw lw kw wl wb wG))))) (va_A (WO hO aO kO hM hQ hw iO_answered iO_searched iO_searchedRelaxed iO_counted fO_countedCase gO_goalNumber gO_goalScale fO_start fO_column fO_chosen ++ (WM hM aM kM iM_stands iM_variables iM_rows iM_goals iM_differents iM_cases fM_from fM_to fM_whole fM_ways iM_plainRows fM_plainRow fM_kept fM_goalOver fM_goalUnder fM_goalMax fM_different ++ (WQ hQ aQ kQ hw fQ_inside fQ_outside fQ_shut iQ_rows iQ_allRows iQ_columns ++ (WW nW hw lw kw wl wb wG)))) sz)) 0 0 (va_A (WO hO aO kO hM hQ hw iO_answered iO_searched iO_searchedRelaxed iO_counted fO_countedCase gO_goalNumber gO_goalScale fO_start fO_column fO_chosen ++ (WM hM aM kM iM_stands iM_variables iM_rows iM_goals iM_differents iM_cases fM_from fM_to fM_whole fM_ways iM_plainRows fM_plainRow fM_kept fM_goalOver fM_goalUnder fM_goalMax fM_different ++ (WQ hQ aQ kQ hw fQ_inside fQ_outside fQ_shut iQ_rows iQ_allRows iQ_columns ++ (WW nW hw lw kw wl wb wG)))) sz) := by
  refine Met.ofW (cc := cX5_scaleGoals) (maxL := 9) (ret := none) (by decide) rfl ?_
  intro p e s m args below meth c s₁ B hml hv
  obtain ⟨rfl, hsz, hP, hK, hD0⟩ := hv
  have hx := B.exec
  have hb := B.bytes
  have hr := B.returns
  have hts := atoms_spec (ws := wsMX5_scaleGoals) B.pre
  have hown : s.vm.findClass RX5 = some m.cls := findClass_of_methodNamed B.named
  have hlocks := B.notSynchronized
  subst hsz
  have hD := hD0.self (sz := s.heap.size)
  generalize hAe : va_A (WO hO aO kO hM hQ hw iO_answered iO_searched iO_searchedRelaxed iO_counted fO_countedCase gO_goalNumber gO_goalScale fO_start fO_column fO_chosen ++ (WM hM aM kM iM_stands iM_variables iM_rows iM_goals iM_differents iM_cases fM_from fM_to fM_whole fM_ways iM_plainRows fM_plainRow fM_kept fM_goalOver fM_goalUnder fM_goalMax fM_different ++ (WQ hQ aQ kQ hw fQ_inside fQ_outside fQ_shut iQ_rows iQ_allRows iQ_columns ++ (WW nW hw lw kw wl wb wG)))) s.heap.size = A at hD ⊢
  have hA : ∀ q : Nat, s.heap.size ≤ q → A q := fun q h => by rw [← hAe]; exact Or.inr h
  have hS : va_S A s.heap s.heap [] := va_S.rf
  have hl := lv_entry ([.ref (hO 0)]) (n := 9) (Nat.le_of_ble_eq_true rfl)
  rw [lg_entry_eq]
  generalize (lg_sl ([.ref (hO 0)]) ++ List.replicate (9 - (lg_sl ([.ref (hO 0)])).length) Slot.unset).toArray = ls at hl ⊢
  have hl : lv_has ls 9 [(0, .ref (hO 0))] := hl
  refine lv_iconst (v := 0) hx hb dX5_scaleGoals_0 (by decide) ?_
  refine lv_istore_n hx hb dX5_scaleGoals_1 rfl hl (by decide) rfl (fun ls (hl : lv_has ls _ ([(1, .int 0), (0, .ref (hO 0))])) => ?_)
  have hl : lv_has _ _ ([(1, .int 0), (0, .ref (hO 0))]) := lv_sub hl [0, 1] rfl
  refine (fun (loop : ∀ (n9 : Nat) (gO_goalNumber_x2 : Nat → Int64) (gO_goalScale_x2 : Nat → Int64) (l1_x2 : Int32) (H : Heap) (locs : List Loc) (ls : Array Slot), (0 ≤ l1_x2.toInt ∧ l1_x2.toInt ≤ 3) → (3 - l1_x2.toInt < ((n9 : Nat) : Int)) → va_P (dC, dI) vwCl (WO hO aO kO hM hQ hw iO_answered iO_searched iO_searchedRelaxed iO_counted fO_countedCase gO_goalNumber_x2 gO_goalScale_x2 fO_start fO_column fO_chosen ++ (WM hM aM kM iM_stands iM_variables iM_rows iM_goals iM_differents iM_cases fM_from fM_to fM_whole fM_ways iM_plainRows fM_plainRow fM_kept fM_goalOver fM_goalUnder fM_goalMax fM_different ++ (WQ hQ aQ kQ hw fQ_inside fQ_outside fQ_shut iQ_rows iQ_allRows iQ_columns ++ (WW nW hw lw kw wl wb wG)))) H → va_D A (WO hO aO kO hM hQ hw iO_answered iO_searched iO_searchedRelaxed iO_counted fO_countedCase gO_goalNumber_x2 gO_goalScale_x2 fO_start fO_column fO_chosen ++ (WM hM aM kM iM_stands iM_variables iM_rows iM_goals iM_differents iM_cases fM_from fM_to fM_whole fM_ways iM_plainRows fM_plainRow fM_kept fM_goalOver fM_goalUnder fM_goalMax fM_different ++ (WQ hQ aQ kQ hw fQ_inside fQ_outside fQ_shut iQ_rows iQ_allRows iQ_columns ++ (WW nW hw lw kw wl wb wG)))) → va_S A s.heap H locs → lv_has ls 9 [(1, .int l1_x2), (0, .ref (hO 0))] → W p l e _ s m _ below meth c H locs 0 0 _ (F0 m 2 ls [])) => loop (4) gO_goalNumber gO_goalScale 0 _ _ _ (show 0 ≤ (0 : Int32).toInt ∧ (0 : Int32).toInt ≤ 3 from by decide) ((by have e9 : (0 : Int32).toInt = 0 := (by decide : (0 : Int32).toInt = 0); omega)) hP hD hS hl) ?_
  intro n9
  induction n9 with
  | zero => intro gO_goalNumber_x2 gO_goalScale_x2 l1_x2 H locs ls b_l1_x2 hf9; exact False.elim (by omega)
  | succ n9 ihx2 =>
    intro gO_goalNumber_x2 gO_goalScale_x2 l1_x2 H locs ls b_l1_x2 hfx2 hP hD hS hl
    refine lv_iload_n hx hb dX5_scaleGoals_2 rfl (lv_at hl 0 rfl) ?_
    refine lv_aload_n hx hb dX5_scaleGoals_3 rfl (lv_at hl 1 rfl) ?_
    refine va_get (D := (dC, dI)) (ci := 5) (v := .ref (hM 0)) (C := RX5) (T := TX5) (N := 19) hx hb hts iwsMX5_scaleGoals_in5 hown hK hP 0 rfl rfl 0 (by decide) (hts (.fieldLink RX5 74 "OptimaWorks$Solver" "model" "LOptimaWorks$Model;") (by decide +kernel)) (fun _ h9 => h9) rfl dX5_scaleGoals_4 ?_
    refine va_get (D := (dC, dI)) (ci := 1) (v := .int iM_goals) (C := RX1) (T := TX1) (N := 17) hx hb hts iwsMX5_scaleGoals_in1 hown hK hP 11 rfl rfl 3 (by decide) (hts (.fieldLink RX5 98 "OptimaWorks$Model" "goals" "I") (by decide +kernel)) (fun _ h9 => h9) rfl dX5_scaleGoals_7 ?_
    refine lv_icmp_ge (tgt := 184) hx hb dX5_scaleGoals_10 (by decide) (fun c_10 => ?_) (fun c_10 => ?_)
    · have t_10 : l1_x2.toInt ≥ iM_goals.toInt := toI_ge c_10 rfl rfl
      refine W.widen (k := 0) (n := 0) (by decide +kernel) (by decide +kernel) ?_
      exact W.vret hx hb hr (fun t9_ ht hW => ⟨⟨(gO_goalNumber_x2, gO_goalScale_x2), rfl, trivial, by rw [ht]; exact hP, hD⟩, hS.F ht⟩) hS.2.2 dX5_scaleGoals_184
    · have t_10 : ¬ l1_x2.toInt ≥ iM_goals.toInt := toI_nge c_10 rfl rfl
      refine lv_lconst (v := 1) hx hb dX5_scaleGoals_13 (by decide) ?_
      refine lv_lstore_n hx hb dX5_scaleGoals_14 rfl hl (by decide) rfl (fun ls (hl : lv_has ls _ ([(2, .long 1), (1, .int l1_x2), (0, .ref (hO 0))])) => ?_)
      refine lv_iconst (v := 1) hx hb dX5_scaleGoals_15 (by decide) ?_
      refine lv_istore hx hb dX5_scaleGoals_16 hl (by decide) rfl (fun ls (hl : lv_has ls _ ([(4, .int 1), (2, .long 1), (1, .int l1_x2), (0, .ref (hO 0))])) => ?_)
      have hl : lv_has _ _ ([(4, .int 1), (2, .long 1), (1, .int l1_x2), (0, .ref (hO 0))]) := lv_sub hl [0, 1, 2, 3] rfl
      refine (fun (loop : ∀ (n9 : Nat) (l4_x18 : Int32) (l2_x18 : Int64) (H : Heap) (locs : List Loc) (ls : Array Slot), (1 ≤ l4_x18.toInt ∧ l4_x18.toInt ≤ 9) → (9 - l4_x18.toInt < ((n9 : Nat) : Int)) → va_P (dC, dI) vwCl (WO hO aO kO hM hQ hw iO_answered iO_searched iO_searchedRelaxed iO_counted fO_countedCase gO_goalNumber_x2 gO_goalScale_x2 fO_start fO_column fO_chosen ++ (WM hM aM kM iM_stands iM_variables iM_rows iM_goals iM_differents iM_cases fM_from fM_to fM_whole fM_ways iM_plainRows fM_plainRow fM_kept fM_goalOver fM_goalUnder fM_goalMax fM_different ++ (WQ hQ aQ kQ hw fQ_inside fQ_outside fQ_shut iQ_rows iQ_allRows iQ_columns ++ (WW nW hw lw kw wl wb wG)))) H → va_D A (WO hO aO kO hM hQ hw iO_answered iO_searched iO_searchedRelaxed iO_counted fO_countedCase gO_goalNumber_x2 gO_goalScale_x2 fO_start fO_column fO_chosen ++ (WM hM aM kM iM_stands iM_variables iM_rows iM_goals iM_differents iM_cases fM_from fM_to fM_whole fM_ways iM_plainRows fM_plainRow fM_kept fM_goalOver fM_goalUnder fM_goalMax fM_different ++ (WQ hQ aQ kQ hw fQ_inside fQ_outside fQ_shut iQ_rows iQ_allRows iQ_columns ++ (WW nW hw lw kw wl wb wG)))) → va_S A s.heap H locs → lv_has ls 9 [(4, .int l4_x18), (2, .long l2_x18), (1, .int l1_x2), (0, .ref (hO 0))] → W p l e _ s m _ below meth c H locs 0 0 _ (F0 m 18 ls [])) => loop (9) 1 1 _ _ _ (show 1 ≤ (1 : Int32).toInt ∧ (1 : Int32).toInt ≤ 9 from by decide) ((by have e9 : (1 : Int32).toInt = 1 := (by decide : (1 : Int32).toInt = 1); omega)) hP hD hS hl) ?_
      intro n9
      induction n9 with
      | zero => intro l4_x18 l2_x18 H locs ls b_l4_x18 hf9; exact False.elim (by omega)
      | succ n9 ihx18 =>
        intro l4_x18 l2_x18 H locs ls b_l4_x18 hfx18 hP hD hS hl
        refine lv_iload hx hb dX5_scaleGoals_18 (lv_at hl 0 rfl) ?_
        refine lv_aload_n hx hb dX5_scaleGoals_20 rfl (lv_at hl 3 rfl) ?_
        refine va_get (D := (dC, dI)) (ci := 5) (v := .ref (hM 0)) (C := RX5) (T := TX5) (N := 19) hx hb hts iwsMX5_scaleGoals_in5 hown hK hP 0 rfl rfl 0 (by decide) (hts (.fieldLink RX5 74 "OptimaWorks$Solver" "model" "LOptimaWorks$Model;") (by decide +kernel)) (fun _ h9 => h9) rfl dX5_scaleGoals_21 ?_
        refine va_get (D := (dC, dI)) (ci := 1) (v := .int iM_variables) (C := RX1) (T := TX1) (N := 17) hx hb hts iwsMX5_scaleGoals_in1 hown hK hP 11 rfl rfl 1 (by decide) (hts (.fieldLink RX5 112 "OptimaWorks$Model" "variables" "I") (by decide +kernel)) (fun _ h9 => h9) rfl dX5_scaleGoals_24 ?_
        refine lv_icmp_gt (tgt := 67) hx hb dX5_scaleGoals_27 (by decide) (fun c_27 => ?_) (fun c_27 => ?_)
        · have t_27 : l4_x18.toInt > iM_variables.toInt := toI_gt c_27 rfl rfl
          refine lv_aload_n hx hb dX5_scaleGoals_67 rfl (lv_at hl 3 rfl) ?_
          refine va_get (D := (dC, dI)) (ci := 5) (v := .ref (aO 2)) (C := RX5) (T := TX5) (N := 19) hx hb hts iwsMX5_scaleGoals_in5 hown hK hP 0 rfl rfl 8 (by decide) (hts (.fieldLink RX5 32 "OptimaWorks$Solver" "goalScale" "[J") (by decide +kernel)) (fun _ h9 => h9) rfl dX5_scaleGoals_68 ?_
          refine lv_iload_n hx hb dX5_scaleGoals_71 rfl (lv_at hl 2 rfl) ?_
          refine lv_lload_n hx hb dX5_scaleGoals_72 rfl (lv_at hl 1 rfl) ?_
          refine va_last (cA := kO 2) (n := 3) (f := gO_goalScale_x2) hx hb hK hP hD hS 3 2 rfl rfl (vp_in_iff.mpr ⟨b_l1_x2.1, (by omega)⟩) dX5_scaleGoals_73 (fun H locs hP hD hS => ?_)
          obtain ⟨u2338, hu2338⟩ : ∃ f9, f9 = vp_updL gO_goalScale_x2 (l1_x2).toNatClampNeg l2_x18 := ⟨_, rfl⟩
          have hP : va_P (dC, dI) vwCl (WO hO aO kO hM hQ hw iO_answered iO_searched iO_searchedRelaxed iO_counted fO_countedCase gO_goalNumber_x2 u2338 fO_start fO_column fO_chosen ++ (WM hM aM kM iM_stands iM_variables iM_rows iM_goals iM_differents iM_cases fM_from fM_to fM_whole fM_ways iM_plainRows fM_plainRow fM_kept fM_goalOver fM_goalUnder fM_goalMax fM_different ++ (WQ hQ aQ kQ hw fQ_inside fQ_outside fQ_shut iQ_rows iQ_allRows iQ_columns ++ (WW nW hw lw kw wl wb wG)))) H := by rw [hu2338]; exact hP
          have hD : va_D A (WO hO aO kO hM hQ hw iO_answered iO_searched iO_searchedRelaxed iO_counted fO_countedCase gO_goalNumber_x2 u2338 fO_start fO_column fO_chosen ++ (WM hM aM kM iM_stands iM_variables iM_rows iM_goals iM_differents iM_cases fM_from fM_to fM_whole fM_ways iM_plainRows fM_plainRow fM_kept fM_goalOver fM_goalUnder fM_goalMax fM_different ++ (WQ hQ aQ kQ hw fQ_inside fQ_outside fQ_shut iQ_rows iQ_allRows iQ_columns ++ (WW nW hw lw kw wl wb wG)))) := by rw [hu2338]; exact hD
          clear hu2338
          refine lv_iconst (v := 0) hx hb dX5_scaleGoals_74 (by decide) ?_
          refine lv_istore hx hb dX5_scaleGoals_75 hl (by decide) rfl (fun ls (hl : lv_has ls _ ([(4, .int 0), (2, .long l2_x18), (1, .int l1_x2), (0, .ref (hO 0))])) => ?_)
          have hl : lv_has _ _ ([(4, .int 0), (2, .long l2_x18), (1, .int l1_x2), (0, .ref (hO 0))]) := lv_sub hl [0, 1, 2, 3] rfl
          refine (fun (loop : ∀ (n9 : Nat) (gO_goalNumber_x77 : Nat → Int64) (l4_x77 : Int32) (H : Heap) (locs : List Loc) (ls : Array Slot), (0 ≤ l4_x77.toInt ∧ l4_x77.toInt ≤ 8) → (8 - l4_x77.toInt < ((n9 : Nat) : Int)) → va_P (dC, dI) vwCl (WO hO aO kO hM hQ hw iO_answered iO_searched iO_searchedRelaxed iO_counted fO_countedCase gO_goalNumber_x77 u2338 fO_start fO_column fO_chosen ++ (WM hM aM kM iM_stands iM_variables iM_rows iM_goals iM_differents iM_cases fM_from fM_to fM_whole fM_ways iM_plainRows fM_plainRow fM_kept fM_goalOver fM_goalUnder fM_goalMax fM_different ++ (WQ hQ aQ kQ hw fQ_inside fQ_outside fQ_shut iQ_rows iQ_allRows iQ_columns ++ (WW nW hw lw kw wl wb wG)))) H → va_D A (WO hO aO kO hM hQ hw iO_answered iO_searched iO_searchedRelaxed iO_counted fO_countedCase gO_goalNumber_x77 u2338 fO_start fO_column fO_chosen ++ (WM hM aM kM iM_stands iM_variables iM_rows iM_goals iM_differents iM_cases fM_from fM_to fM_whole fM_ways iM_plainRows fM_plainRow fM_kept fM_goalOver fM_goalUnder fM_goalMax fM_different ++ (WQ hQ aQ kQ hw fQ_inside fQ_outside fQ_shut iQ_rows iQ_allRows iQ_columns ++ (WW nW hw lw kw wl wb wG)))) → va_S A s.heap H locs → lv_has ls 9 [(4, .int l4_x77), (2, .long l2_x18), (1, .int l1_x2), (0, .ref (hO 0))] → W p l e _ s m _ below meth c H locs 0 0 _ (F0 m 77 ls [])) => loop (9) gO_goalNumber_x2 0 _ _ _ (show 0 ≤ (0 : Int32).toInt ∧ (0 : Int32).toInt ≤ 8 from by decide) ((by have e9 : (0 : Int32).toInt = 0 := (by decide : (0 : Int32).toInt = 0); omega)) hP hD hS hl) ?_
          intro n9
          induction n9 with
          | zero => intro gO_goalNumber_x77 l4_x77 H locs ls b_l4_x77 hf9; exact False.elim (by omega)
          | succ n9 ihx77 =>
            intro gO_goalNumber_x77 l4_x77 H locs ls b_l4_x77 hfx77 hP hD hS hl
            refine lv_iload hx hb dX5_scaleGoals_77 (lv_at hl 0 rfl) ?_
            refine lv_aload_n hx hb dX5_scaleGoals_79 rfl (lv_at hl 3 rfl) ?_
            refine va_get (D := (dC, dI)) (ci := 5) (v := .ref (hM 0)) (C := RX5) (T := TX5) (N := 19) hx hb hts iwsMX5_scaleGoals_in5 hown hK hP 0 rfl rfl 0 (by decide) (hts (.fieldLink RX5 74 "OptimaWorks$Solver" "model" "LOptimaWorks$Model;") (by decide +kernel)) (fun _ h9 => h9) rfl dX5_scaleGoals_80 ?_
            refine va_get (D := (dC, dI)) (ci := 1) (v := .int iM_variables) (C := RX1) (T := TX1) (N := 17) hx hb hts iwsMX5_scaleGoals_in1 hown hK hP 11 rfl rfl 1 (by decide) (hts (.fieldLink RX5 112 "OptimaWorks$Model" "variables" "I") (by decide +kernel)) (fun _ h9 => h9) rfl dX5_scaleGoals_83 ?_
            refine lv_icmp_ge (tgt := 178) hx hb dX5_scaleGoals_86 (by decide) (fun c_86 => ?_) (fun c_86 => ?_)
            · have t_86 : l4_x77.toInt ≥ iM_variables.toInt := toI_ge c_86 rfl rfl
              refine lv_iinc (v := (iI (l1_x2.toInt + 1))) hx hb dX5_scaleGoals_178 hl (k := 2) rfl (iI_add2 (iI_of _) (by decide : (1 : Int32) = iI 1)) (by decide) rfl (fun ls (hl : lv_has ls _ ([(1, .int (iI (l1_x2.toInt + 1))), (4, .int l4_x77), (2, .long l2_x18), (0, .ref (hO 0))])) => ?_)
              refine lv_goto (tgt := 2) hx hb dX5_scaleGoals_181 (by decide) ?_
              have hl : lv_has _ _ ([(1, .int (iI (l1_x2.toInt + 1))), (0, .ref (hO 0))]) := lv_sub hl [0, 3] rfl
              exact ihx2 gO_goalNumber_x77 u2338 (iI (l1_x2.toInt + 1)) _ _ _ (iI_rng (Int.le_trans (by decide) (Int.add_le_add (b_l1_x2.1) (Int.le_refl _))) (by omega) (by decide) (by decide)) (by have e9 : ((iI (l1_x2.toInt + 1))).toInt = (l1_x2.toInt + 1) := (iI_t (Int.le_trans (by decide) (Int.add_le_add (b_l1_x2.1) (Int.le_refl _))) (Int.le_trans (Int.add_le_add (b_l1_x2.2) (Int.le_refl _)) (by decide))); omega) hP hD hS hl
            · have t_86 : ¬ l4_x77.toInt ≥ iM_variables.toInt := toI_nge c_86 rfl rfl
              refine lv_iload_n hx hb dX5_scaleGoals_89 rfl (lv_at hl 2 rfl) ?_
              refine lv_bipush (v := 9) hx hb dX5_scaleGoals_90 (by decide) ?_
              refine lv_imul hx hb dX5_scaleGoals_92 ?_
              refine lv_topi (fun y2439 hy2439 => ?_)
              obtain rfl : (iI (l1_x2.toInt * 9)) = y2439 := (hy2439.trans (iI_mul2 (iI_of _) (by decide : (9 : Int32) = iI 9))).symm
              refine lv_iload hx hb dX5_scaleGoals_93 (lv_at hl 0 rfl) ?_
              refine lv_iadd hx hb dX5_scaleGoals_95 ?_
              refine lv_topi (fun y2440 hy2440 => ?_)
              obtain rfl : (iI ((l1_x2.toInt * 9) + l4_x77.toInt)) = y2440 := (hy2440.trans (iI_add2 rfl (iI_of _))).symm
              refine lv_iconst (v := 1) hx hb dX5_scaleGoals_96 (by decide) ?_
              refine lv_iadd hx hb dX5_scaleGoals_97 ?_
              refine lv_topi (fun y2441 hy2441 => ?_)
              obtain rfl : (iI (((l1_x2.toInt * 9) + l4_x77.toInt) + 1)) = y2441 := (hy2441.trans (iI_add2 rfl (by decide : (1 : Int32) = iI 1))).symm
              refine lv_istore hx hb dX5_scaleGoals_98 hl (by decide) rfl (fun ls (hl : lv_has ls _ ([(5, .int (iI (((l1_x2.toInt * 9) + l4_x77.toInt) + 1))), (4, .int l4_x77), (2, .long l2_x18), (1, .int l1_x2), (0, .ref (hO 0))])) => ?_)
              refine lv_aload_n hx hb dX5_scaleGoals_100 rfl (lv_at hl 4 rfl) ?_
              refine va_get (D := (dC, dI)) (ci := 5) (v := .ref (hM 0)) (C := RX5) (T := TX5) (N := 19) hx hb hts iwsMX5_scaleGoals_in5 hown hK hP 0 rfl rfl 0 (by decide) (hts (.fieldLink RX5 74 "OptimaWorks$Solver" "model" "LOptimaWorks$Model;") (by decide +kernel)) (fun _ h9 => h9) rfl dX5_scaleGoals_101 ?_
              refine va_get (D := (dC, dI)) (ci := 1) (v := .ref (aM 7)) (C := RX1) (T := TX1) (N := 17) hx hb hts iwsMX5_scaleGoals_in1 hown hK hP 11 rfl rfl 14 (by decide) (hts (.fieldLink RX5 115 "OptimaWorks$Model" "goalUnder" "[I") (by decide +kernel)) (fun _ h9 => h9) rfl dX5_scaleGoals_104 ?_
              refine lv_iload hx hb dX5_scaleGoals_107 (lv_at hl 0 rfl) ?_
              refine va_iald (cA := kM 7) (n := 27) (f := fM_goalUnder) hx hb hK hP 19 17 rfl rfl (vp_iI (Int.le_trans (by decide) (Int.add_le_add (Int.add_le_add (Int.mul_le_mul_of_nonneg_right (b_l1_x2.1) (by decide)) (b_l4_x77.1)) (Int.le_refl _))) (by omega) (by decide)) dX5_scaleGoals_109 ?_
              refine lv_topi (fun v2442 hv2442 => ?_)
              clear hv2442
              refine lv_istore hx hb dX5_scaleGoals_110 hl (by decide) rfl (fun ls (hl : lv_has ls _ ([(6, .int v2442), (5, .int (iI (((l1_x2.toInt * 9) + l4_x77.toInt) + 1))), (4, .int l4_x77), (2, .long l2_x18), (1, .int l1_x2), (0, .ref (hO 0))])) => ?_)
              refine lv_iload hx hb dX5_scaleGoals_112 (lv_at hl 0 rfl) ?_
              refine W.cut (pc := 138) (fun H locs ls stk => ∃ (k0_j431 : Int64),  stk = [.long k0_j431] ∧ va_P (dC, dI) vwCl (WO hO aO kO hM hQ hw iO_answered iO_searched iO_searchedRelaxed iO_counted fO_countedCase gO_goalNumber_x77 u2338 fO_start fO_column fO_chosen ++ (WM hM aM kM iM_stands iM_variables iM_rows iM_goals iM_differents iM_cases fM_from fM_to fM_whole fM_ways iM_plainRows fM_plainRow fM_kept fM_goalOver fM_goalUnder fM_goalMax fM_different ++ (WQ hQ aQ kQ hw fQ_inside fQ_outside fQ_shut iQ_rows iQ_allRows iQ_columns ++ (WW nW hw lw kw wl wb wG)))) H ∧ va_D A (WO hO aO kO hM hQ hw iO_answered iO_searched iO_searchedRelaxed iO_counted fO_countedCase gO_goalNumber_x77 u2338 fO_start fO_column fO_chosen ++ (WM hM aM kM iM_stands iM_variables iM_rows iM_goals iM_differents iM_cases fM_from fM_to fM_whole fM_ways iM_plainRows fM_plainRow fM_kept fM_goalOver fM_goalUnder fM_goalMax fM_different ++ (WQ hQ aQ kQ hw fQ_inside fQ_outside fQ_shut iQ_rows iQ_allRows iQ_columns ++ (WW nW hw lw kw wl wb wG)))) ∧ va_S A s.heap H locs ∧ lv_has ls 9 [(6, .int v2442), (5, .int (iI (((l1_x2.toInt * 9) + l4_x77.toInt) + 1))), (4, .int l4_x77), (2, .long l2_x18), (1, .int l1_x2), (0, .ref (hO 0))]) (fun join431 => ?_) ?_
              · refine lv_if_ne (tgt := 121) hx hb dX5_scaleGoals_114 (by decide) (fun c_114 => ?_) (fun c_114 => ?_)
                · have t_114 : v2442.toInt ≠ 0 := toI_ne c_114 rfl (by decide : (0 : Int32).toInt = 0)
                  refine lv_lload_n hx hb dX5_scaleGoals_121 rfl (lv_at hl 3 rfl) ?_
                  refine lv_iload hx hb dX5_scaleGoals_122 (lv_at hl 0 rfl) ?_
                  refine lv_i2l hx hb dX5_scaleGoals_124 rfl ?_
                  refine lv_topl (fun v2448 hv2448 => ?_)
                  have b_v2448 : v2448.toInt = v2442.toInt := by rw [hv2448]; exact (i2l_t _).trans rfl
                  clear hv2448
                  refine lv_ldiv hx hb dX5_scaleGoals_125 (nz_l (x := v2448) rfl (by omega)) ?_
                  refine lv_topl (fun v2449 hv2449 => ?_)
                  clear hv2449
                  refine lv_aload_n hx hb dX5_scaleGoals_126 rfl (lv_at hl 5 rfl) ?_
                  refine va_get (D := (dC, dI)) (ci := 5) (v := .ref (hM 0)) (C := RX5) (T := TX5) (N := 19) hx hb hts iwsMX5_scaleGoals_in5 hown hK hP 0 rfl rfl 0 (by decide) (hts (.fieldLink RX5 74 "OptimaWorks$Solver" "model" "LOptimaWorks$Model;") (by decide +kernel)) (fun _ h9 => h9) rfl dX5_scaleGoals_127 ?_
                  refine va_get (D := (dC, dI)) (ci := 1) (v := .ref (aM 6)) (C := RX1) (T := TX1) (N := 17) hx hb hts iwsMX5_scaleGoals_in1 hown hK hP 11 rfl rfl 13 (by decide) (hts (.fieldLink RX5 124 "OptimaWorks$Model" "goalOver" "[I") (by decide +kernel)) (fun _ h9 => h9) rfl dX5_scaleGoals_130 ?_
                  refine lv_iload hx hb dX5_scaleGoals_133 (lv_at hl 1 rfl) ?_
                  refine va_iald (cA := kM 6) (n := 27) (f := fM_goalOver) hx hb hK hP 18 16 rfl rfl (vp_iI (Int.le_trans (by decide) (Int.add_le_add (Int.add_le_add (Int.mul_le_mul_of_nonneg_right (b_l1_x2.1) (by decide)) (b_l4_x77.1)) (Int.le_refl _))) (by omega) (by decide)) dX5_scaleGoals_135 ?_
                  refine lv_topi (fun v2450 hv2450 => ?_)
                  clear hv2450
                  refine lv_i2l hx hb dX5_scaleGoals_136 rfl ?_
                  refine lv_topl (fun v2451 hv2451 => ?_)
                  clear hv2451
                  refine lv_lmul hx hb dX5_scaleGoals_137 ?_
                  refine lv_topl (fun v2452 hv2452 => ?_)
                  clear hv2452
                  have hl : lv_has _ _ ([(6, .int v2442), (5, .int (iI (((l1_x2.toInt * 9) + l4_x77.toInt) + 1))), (4, .int l4_x77), (2, .long l2_x18), (1, .int l1_x2), (0, .ref (hO 0))]) := lv_sub hl [0, 1, 2, 3, 4, 5] rfl
                  exact join431 _ _ _ _ ⟨v2452, rfl, hP, hD, hS, hl⟩
                · have t_114 : v2442.toInt = 0 := toI_nne c_114 rfl (by decide : (0 : Int32).toInt = 0)
                  refine lv_lconst (v := 0) hx hb dX5_scaleGoals_117 (by decide) ?_
                  refine lv_goto (tgt := 138) hx hb dX5_scaleGoals_118 (by decide) ?_
                  have hl : lv_has _ _ ([(6, .int v2442), (5, .int (iI (((l1_x2.toInt * 9) + l4_x77.toInt) + 1))), (4, .int l4_x77), (2, .long l2_x18), (1, .int l1_x2), (0, .ref (hO 0))]) := lv_sub hl [0, 1, 2, 3, 4, 5] rfl
                  exact join431 _ _ _ _ ⟨0, rfl, hP, hD, hS, hl⟩
              · rintro H locs ls stk ⟨k0_j431, rfl, hP, hD, hS, hl⟩
                refine lv_lstore hx hb dX5_scaleGoals_138 hl (by decide) rfl (fun ls (hl : lv_has ls _ ([(7, .long k0_j431), (6, .int v2442), (5, .int (iI (((l1_x2.toInt * 9) + l4_x77.toInt) + 1))), (4, .int l4_x77), (2, .long l2_x18), (1, .int l1_x2), (0, .ref (hO 0))])) => ?_)
                refine lv_aload_n hx hb dX5_scaleGoals_140 rfl (lv_at hl 6 rfl) ?_
                refine va_get (D := (dC, dI)) (ci := 5) (v := .ref (aO 1)) (C := RX5) (T := TX5) (N := 19) hx hb hts iwsMX5_scaleGoals_in5 hown hK hP 0 rfl rfl 7 (by decide) (hts (.fieldLink RX5 28 "OptimaWorks$Solver" "goalNumber" "[J") (by decide +kernel)) (fun _ h9 => h9) rfl dX5_scaleGoals_141 ?_
                refine lv_iload_n hx hb dX5_scaleGoals_144 rfl (lv_at hl 5 rfl) ?_
                refine lv_bipush (v := 8) hx hb dX5_scaleGoals_145 (by decide) ?_
                refine lv_imul hx hb dX5_scaleGoals_147 ?_
                refine lv_topi (fun y2453 hy2453 => ?_)
                obtain rfl : (iI (l1_x2.toInt * 8)) = y2453 := (hy2453.trans (iI_mul2 (iI_of _) (by decide : (8 : Int32) = iI 8))).symm
                refine lv_iload hx hb dX5_scaleGoals_148 (lv_at hl 3 rfl) ?_
                refine lv_iadd hx hb dX5_scaleGoals_150 ?_
                refine lv_topi (fun y2454 hy2454 => ?_)
                obtain rfl : (iI ((l1_x2.toInt * 8) + l4_x77.toInt)) = y2454 := (hy2454.trans (iI_add2 rfl (iI_of _))).symm
                refine lv_aload_n hx hb dX5_scaleGoals_151 rfl (lv_at hl 6 rfl) ?_
                refine va_get (D := (dC, dI)) (ci := 5) (v := .ref (hM 0)) (C := RX5) (T := TX5) (N := 19) hx hb hts iwsMX5_scaleGoals_in5 hown hK hP 0 rfl rfl 0 (by decide) (hts (.fieldLink RX5 74 "OptimaWorks$Solver" "model" "LOptimaWorks$Model;") (by decide +kernel)) (fun _ h9 => h9) rfl dX5_scaleGoals_152 ?_
                refine va_get (D := (dC, dI)) (ci := 1) (v := .ref (aM 8)) (C := RX1) (T := TX1) (N := 17) hx hb hts iwsMX5_scaleGoals_in1 hown hK hP 11 rfl rfl 15 (by decide) (hts (.fieldLink RX5 127 "OptimaWorks$Model" "goalMax" "[Z") (by decide +kernel)) (fun _ h9 => h9) rfl dX5_scaleGoals_155 ?_
                refine lv_iload_n hx hb dX5_scaleGoals_158 rfl (lv_at hl 5 rfl) ?_
                refine va_zald (cA := kM 8) (n := 3) (f := fM_goalMax) hx hb hK hP 20 18 rfl rfl (vp_in_iff.mpr ⟨b_l1_x2.1, (by omega)⟩) dX5_scaleGoals_159 ?_
                refine lv_topi (fun v2455 hv2455 => ?_)
                clear hv2455
                refine W.cut (pc := 171) (fun H locs ls stk => ∃ (k0_j432 : Int64),  stk = [.long k0_j432, .int (iI ((l1_x2.toInt * 8) + l4_x77.toInt)), .ref (aO 1)] ∧ va_P (dC, dI) vwCl (WO hO aO kO hM hQ hw iO_answered iO_searched iO_searchedRelaxed iO_counted fO_countedCase gO_goalNumber_x77 u2338 fO_start fO_column fO_chosen ++ (WM hM aM kM iM_stands iM_variables iM_rows iM_goals iM_differents iM_cases fM_from fM_to fM_whole fM_ways iM_plainRows fM_plainRow fM_kept fM_goalOver fM_goalUnder fM_goalMax fM_different ++ (WQ hQ aQ kQ hw fQ_inside fQ_outside fQ_shut iQ_rows iQ_allRows iQ_columns ++ (WW nW hw lw kw wl wb wG)))) H ∧ va_D A (WO hO aO kO hM hQ hw iO_answered iO_searched iO_searchedRelaxed iO_counted fO_countedCase gO_goalNumber_x77 u2338 fO_start fO_column fO_chosen ++ (WM hM aM kM iM_stands iM_variables iM_rows iM_goals iM_differents iM_cases fM_from fM_to fM_whole fM_ways iM_plainRows fM_plainRow fM_kept fM_goalOver fM_goalUnder fM_goalMax fM_different ++ (WQ hQ aQ kQ hw fQ_inside fQ_outside fQ_shut iQ_rows iQ_allRows iQ_columns ++ (WW nW hw lw kw wl wb wG)))) ∧ va_S A s.heap H locs ∧ lv_has ls 9 [(7, .long k0_j431), (6, .int v2442), (5, .int (iI (((l1_x2.toInt * 9) + l4_x77.toInt) + 1))), (4, .int l4_x77), (2, .long l2_x18), (1, .int l1_x2), (0, .ref (hO 0))]) (fun join432 => ?_) ?_
                · refine lv_if_eq (tgt := 169) hx hb dX5_scaleGoals_160 (by decide) (fun c_160 => ?_) (fun c_160 => ?_)
                  · have t_160 : v2455.toInt = 0 := toI_eq c_160 rfl (by decide : (0 : Int32).toInt = 0)
                    refine lv_lload hx hb dX5_scaleGoals_169 (lv_at hl 0 rfl) ?_
                    have hl : lv_has _ _ ([(7, .long k0_j431), (6, .int v2442), (5, .int (iI (((l1_x2.toInt * 9) + l4_x77.toInt) + 1))), (4, .int l4_x77), (2, .long l2_x18), (1, .int l1_x2), (0, .ref (hO 0))]) := lv_sub hl [0, 1, 2, 3, 4, 5, 6] rfl
                    exact join432 _ _ _ _ ⟨k0_j431, rfl, hP, hD, hS, hl⟩
                  · have t_160 : ¬ v2455.toInt = 0 := toI_neq c_160 rfl (by decide : (0 : Int32).toInt = 0)
                    refine lv_lload hx hb dX5_scaleGoals_163 (lv_at hl 0 rfl) ?_
                    refine lv_lneg hx hb dX5_scaleGoals_165 ?_
                    refine lv_topl (fun v2457 hv2457 => ?_)
                    clear hv2457
                    refine lv_goto (tgt := 171) hx hb dX5_scaleGoals_166 (by decide) ?_
                    have hl : lv_has _ _ ([(7, .long k0_j431), (6, .int v2442), (5, .int (iI (((l1_x2.toInt * 9) + l4_x77.toInt) + 1))), (4, .int l4_x77), (2, .long l2_x18), (1, .int l1_x2), (0, .ref (hO 0))]) := lv_sub hl [0, 1, 2, 3, 4, 5, 6] rfl
                    exact join432 _ _ _ _ ⟨v2457, rfl, hP, hD, hS, hl⟩
                · rintro H locs ls stk ⟨k0_j432, rfl, hP, hD, hS, hl⟩
                  refine va_last (cA := kO 1) (n := 24) (f := gO_goalNumber_x77) hx hb hK hP hD hS 2 1 rfl rfl (vp_iI (Int.le_trans (by decide) (Int.add_le_add (Int.mul_le_mul_of_nonneg_right (b_l1_x2.1) (by decide)) (b_l4_x77.1))) (by omega) (by decide)) dX5_scaleGoals_171 (fun H locs hP hD hS => ?_)
                  obtain ⟨u2458, hu2458⟩ : ∃ f9, f9 = vp_updL gO_goalNumber_x77 ((iI ((l1_x2.toInt * 8) + l4_x77.toInt))).toNatClampNeg k0_j432 := ⟨_, rfl⟩
                  have hP : va_P (dC, dI) vwCl (WO hO aO kO hM hQ hw iO_answered iO_searched iO_searchedRelaxed iO_counted fO_countedCase u2458 u2338 fO_start fO_column fO_chosen ++ (WM hM aM kM iM_stands iM_variables iM_rows iM_goals iM_differents iM_cases fM_from fM_to fM_whole fM_ways iM_plainRows fM_plainRow fM_kept fM_goalOver fM_goalUnder fM_goalMax fM_different ++ (WQ hQ aQ kQ hw fQ_inside fQ_outside fQ_shut iQ_rows iQ_allRows iQ_columns ++ (WW nW hw lw kw wl wb wG)))) H := by rw [hu2458]; exact hP
                  have hD : va_D A (WO hO aO kO hM hQ hw iO_answered iO_searched iO_searchedRelaxed iO_counted fO_countedCase u2458 u2338 fO_start fO_column fO_chosen ++ (WM hM aM kM iM_stands iM_variables iM_rows iM_goals iM_differents iM_cases fM_from fM_to fM_whole fM_ways iM_plainRows fM_plainRow fM_kept fM_goalOver fM_goalUnder fM_goalMax fM_different ++ (WQ hQ aQ kQ hw fQ_inside fQ_outside fQ_shut iQ_rows iQ_allRows iQ_columns ++ (WW nW hw lw kw wl wb wG)))) := by rw [hu2458]; exact hD
                  clear hu2458
                  refine lv_iinc (v := (iI (l4_x77.toInt + 1))) hx hb dX5_scaleGoals_172 hl (k := 3) rfl (iI_add2 (iI_of _) (by decide : (1 : Int32) = iI 1)) (by decide) rfl (fun ls (hl : lv_has ls _ ([(4, .int (iI (l4_x77.toInt + 1))), (7, .long k0_j431), (6, .int v2442), (5, .int (iI (((l1_x2.toInt * 9) + l4_x77.toInt) + 1))), (2, .long l2_x18), (1, .int l1_x2), (0, .ref (hO 0))])) => ?_)
                  refine lv_goto (tgt := 77) hx hb dX5_scaleGoals_175 (by decide) ?_
                  have hl : lv_has _ _ ([(4, .int (iI (l4_x77.toInt + 1))), (2, .long l2_x18), (1, .int l1_x2), (0, .ref (hO 0))]) := lv_sub hl [0, 4, 5, 6] rfl
                  exact ihx77 u2458 (iI (l4_x77.toInt + 1)) _ _ _ (iI_rng (Int.le_trans (by decide) (Int.add_le_add (b_l4_x77.1) (Int.le_refl _))) (by omega) (by decide) (by decide)) (by have e9 : ((iI (l4_x77.toInt + 1))).toInt = (l4_x77.toInt + 1) := (iI_t (Int.le_trans (by decide) (Int.add_le_add (b_l4_x77.1) (Int.le_refl _))) (Int.le_trans (Int.add_le_add (b_l4_x77.2) (Int.le_refl _)) (by decide))); omega) hP hD hS hl
        · have t_27 : ¬ l4_x18.toInt > iM_variables.toInt := toI_ngt c_27 rfl rfl
          refine lv_aload_n hx hb dX5_scaleGoals_30 rfl (lv_at hl 3 rfl) ?_
          refine va_get (D := (dC, dI)) (ci := 5) (v := .ref (hM 0)) (C := RX5) (T := TX5) (N := 19) hx hb hts iwsMX5_scaleGoals_in5 hown hK hP 0 rfl rfl 0 (by decide) (hts (.fieldLink RX5 74 "OptimaWorks$Solver" "model" "LOptimaWorks$Model;") (by decide +kernel)) (fun _ h9 => h9) rfl dX5_scaleGoals_31 ?_
          refine va_get (D := (dC, dI)) (ci := 1) (v := .ref (aM 7)) (C := RX1) (T := TX1) (N := 17) hx hb hts iwsMX5_scaleGoals_in1 hown hK hP 11 rfl rfl 14 (by decide) (hts (.fieldLink RX5 115 "OptimaWorks$Model" "goalUnder" "[I") (by decide +kernel)) (fun _ h9 => h9) rfl dX5_scaleGoals_34 ?_
          refine lv_iload_n hx hb dX5_scaleGoals_37 rfl (lv_at hl 2 rfl) ?_
          refine lv_bipush (v := 9) hx hb dX5_scaleGoals_38 (by decide) ?_
          refine lv_imul hx hb dX5_scaleGoals_40 ?_
          refine lv_topi (fun y2459 hy2459 => ?_)
          obtain rfl : (iI (l1_x2.toInt * 9)) = y2459 := (hy2459.trans (iI_mul2 (iI_of _) (by decide : (9 : Int32) = iI 9))).symm
          refine lv_iload hx hb dX5_scaleGoals_41 (lv_at hl 0 rfl) ?_
          refine lv_iadd hx hb dX5_scaleGoals_43 ?_
          refine lv_topi (fun y2460 hy2460 => ?_)
          obtain rfl : (iI ((l1_x2.toInt * 9) + l4_x18.toInt)) = y2460 := (hy2460.trans (iI_add2 rfl (iI_of _))).symm
          refine va_iald (cA := kM 7) (n := 27) (f := fM_goalUnder) hx hb hK hP 19 17 rfl rfl (vp_iI (Int.le_trans (by decide) (Int.add_le_add (Int.mul_le_mul_of_nonneg_right (b_l1_x2.1) (by decide)) (b_l4_x18.1))) (by omega) (by decide)) dX5_scaleGoals_44 ?_
          refine lv_topi (fun v2461 hv2461 => ?_)
          clear hv2461
          refine lv_istore hx hb dX5_scaleGoals_45 hl (by decide) rfl (fun ls (hl : lv_has ls _ ([(5, .int v2461), (4, .int l4_x18), (2, .long l2_x18), (1, .int l1_x2), (0, .ref (hO 0))])) => ?_)
          refine lv_lload_n hx hb dX5_scaleGoals_47 rfl (lv_at hl 2 rfl) ?_
          refine lv_iload hx hb dX5_scaleGoals_48 (lv_at hl 0 rfl) ?_
          refine lv_i2l hx hb dX5_scaleGoals_50 rfl ?_
          refine lv_topl (fun v2462 hv2462 => ?_)
          have b_v2462 : v2462.toInt = v2461.toInt := by rw [hv2462]; exact (i2l_t _).trans rfl
          clear hv2462
          refine lv_lload_n hx hb dX5_scaleGoals_51 rfl (lv_at hl 2 rfl) ?_
          refine lv_iload hx hb dX5_scaleGoals_52 (lv_at hl 0 rfl) ?_
          refine lv_i2l hx hb dX5_scaleGoals_54 rfl ?_
          refine lv_topl (fun v2463 hv2463 => ?_)
          have b_v2463 : v2463.toInt = v2461.toInt := by rw [hv2463]; exact (i2l_t _).trans rfl
          clear hv2463
          have hFc := noneFree hS hA
          refine va_calll (va_runS (As := [.long l2_x18, .long v2463]) (rest := [.long v2462, .long l2_x18]) ⟨hx, hb, hml, hown, hts⟩ (m_X10_divisor l dC dI l2_x18 v2463 H.size) (va_cwS 2 hts gwsMX5_scaleGoals_0 rfl rfl rfl (by decide +kernel) ⟨by decide +kernel, by decide +kernel⟩) ⟨fun a U g mk q => by obtain ⟨q0, q1, qP, qK, qD⟩ := q; exact ⟨q0, q1, qP, va_K.moved (u := U) (U := U.calling g mk a) (Vm.Alike.refl U.vm) qK, qD⟩, fun U hU9 hW => ⟨rfl, by rw [hU9], by rw [hU9]; exact nilP, va_K.moved hW.alike (hK.sub (tys' := []) [] rfl), nilD⟩⟩ rfl rfl hl.1 rfl (lv_room (Nat.le_of_ble_eq_true rfl)) dX5_scaleGoals_55 (by decide +kernel)) hS (fun q _ h => hFc q h) hFc (fun r2464 u t9_ H1 locs ht hvm hw9 hB9 hz1 hk1 hS => ?_)
          have f2464_0 := hw9
          try dsimp only at f2464_0
          clear hB9
          have hP := keepAll hP hk1
          generalize H1 = H at hP hS ⊢
          have hP : va_P (dC, dI) vwCl (WO hO aO kO hM hQ hw iO_answered iO_searched iO_searchedRelaxed iO_counted fO_countedCase gO_goalNumber_x2 gO_goalScale_x2 fO_start fO_column fO_chosen ++ (WM hM aM kM iM_stands iM_variables iM_rows iM_goals iM_differents iM_cases fM_from fM_to fM_whole fM_ways iM_plainRows fM_plainRow fM_kept fM_goalOver fM_goalUnder fM_goalMax fM_different ++ (WQ hQ aQ kQ hw fQ_inside fQ_outside fQ_shut iQ_rows iQ_allRows iQ_columns ++ (WW nW hw lw kw wl wb wG)))) H := hP
          have hD : va_D A (WO hO aO kO hM hQ hw iO_answered iO_searched iO_searchedRelaxed iO_counted fO_countedCase gO_goalNumber_x2 gO_goalScale_x2 fO_start fO_column fO_chosen ++ (WM hM aM kM iM_stands iM_variables iM_rows iM_goals iM_differents iM_cases fM_from fM_to fM_whole fM_ways iM_plainRows fM_plainRow fM_kept fM_goalOver fM_goalUnder fM_goalMax fM_different ++ (WQ hQ aQ kQ hw fQ_inside fQ_outside fQ_shut iQ_rows iQ_allRows iQ_columns ++ (WW nW hw lw kw wl wb wG)))) := hD
          have hdv := f2464_0
          refine lv_ldiv hx hb dX5_scaleGoals_58 (nz_l (x := r2464) rfl (by omega)) ?_
          refine lv_topl (fun v2465 hv2465 => ?_)
          clear hv2465
          refine lv_lmul hx hb dX5_scaleGoals_59 ?_
          refine lv_topl (fun v2466 hv2466 => ?_)
          clear hv2466
          refine lv_lstore_n hx hb dX5_scaleGoals_60 rfl hl (by decide) rfl (fun ls (hl : lv_has ls _ ([(2, .long v2466), (5, .int v2461), (4, .int l4_x18), (1, .int l1_x2), (0, .ref (hO 0))])) => ?_)
          refine lv_iinc (v := (iI (l4_x18.toInt + 1))) hx hb dX5_scaleGoals_61 hl (k := 2) rfl (iI_add2 (iI_of _) (by decide : (1 : Int32) = iI 1)) (by decide) rfl (fun ls (hl : lv_has ls _ ([(4, .int (iI (l4_x18.toInt + 1))), (2, .long v2466), (5, .int v2461), (1, .int l1_x2), (0, .ref (hO 0))])) => ?_)
          refine lv_goto (tgt := 18) hx hb dX5_scaleGoals_64 (by decide) ?_
          have hl : lv_has _ _ ([(4, .int (iI (l4_x18.toInt + 1))), (2, .long v2466), (1, .int l1_x2), (0, .ref (hO 0))]) := lv_sub hl [0, 1, 3, 4] rfl
          exact ihx18 (iI (l4_x18.toInt + 1)) v2466 _ _ _ (iI_rng (Int.le_trans (by decide) (Int.add_le_add (b_l4_x18.1) (Int.le_refl _))) (by omega) (by decide) (by decide)) (by have e9 : ((iI (l4_x18.toInt + 1))).toInt = (l4_x18.toInt + 1) := (iI_t (Int.le_trans (by decide) (Int.add_le_add (b_l4_x18.1) (Int.le_refl _))) (Int.le_trans (Int.add_le_add (b_l4_x18.2) (Int.le_refl _)) (by decide))); omega) hP hD hS hl
theorem dX5_differ_0 : decode cX5_differ 0 = .ok (.iconst 0, 1) := dk_3 (by decide +kernel)
theorem dX5_differ_1 : decode cX5_differ 1 = .ok (.istore_n 2, 1) := dk_61 (by decide +kernel)
theorem dX5_differ_2 : decode cX5_differ 2 = .ok (.iload_n 2, 1) := dk_28 (by decide +kernel)
theorem dX5_differ_3 : decode cX5_differ 3 = .ok (.aload_n 0, 1) := dk_42 (by decide +kernel)
theorem dX5_differ_4 : decode cX5_differ 4 = .ok (.getfield 74, 3) := dk_180 (by decide +kernel)
theorem dX5_differ_7 : decode cX5_differ 7 = .ok (.getfield 112, 3) := dk_180 (by decide +kernel)
theorem dX5_differ_10 : decode cX5_differ 10 = .ok (.if_icmp .ge 51, 3) := dk_162 (by decide +kernel)
theorem dX5_differ_13 : decode cX5_differ 13 = .ok (.iconst 0, 1) := dk_3 (by decide +kernel)
theorem dX5_differ_14 : decode cX5_differ 14 = .ok (.istore_n 3, 1) := dk_62 (by decide +kernel)
theorem dX5_differ_15 : decode cX5_differ 15 = .ok (.iload_n 3, 1) := dk_29 (by decide +kernel)
theorem dX5_differ_16 : decode cX5_differ 16 = .ok (.iload_n 2, 1) := dk_28 (by decide +kernel)
theorem dX5_differ_17 : decode cX5_differ 17 = .ok (.if_icmp .ge 38, 3) := dk_162 (by decide +kernel)
theorem dX5_differ_20 : decode cX5_differ 20 = .ok (.iload_n 1, 1) := dk_27 (by decide +kernel)
theorem dX5_differ_21 : decode cX5_differ 21 = .ok (.iload_n 2, 1) := dk_28 (by decide +kernel)
theorem dX5_differ_22 : decode cX5_differ 22 = .ok (.ishr, 1) := dk_122 (by decide +kernel)
theorem dX5_differ_23 : decode cX5_differ 23 = .ok (.iload_n 1, 1) := dk_27 (by decide +kernel)
theorem dX5_differ_24 : decode cX5_differ 24 = .ok (.iload_n 3, 1) := dk_29 (by decide +kernel)
theorem dX5_differ_25 : decode cX5_differ 25 = .ok (.ishr, 1) := dk_122 (by decide +kernel)
theorem dX5_differ_26 : decode cX5_differ 26 = .ok (.iand, 1) := dk_126 (by decide +kernel)
theorem dX5_differ_27 : decode cX5_differ 27 = .ok (.iconst 1, 1) := dk_4 (by decide +kernel)
theorem dX5_differ_28 : decode cX5_differ 28 = .ok (.iand, 1) := dk_126 (by decide +kernel)
theorem dX5_differ_29 : decode cX5_differ 29 = .ok (.ifCond .eq 20, 3) := dk_153 (by decide +kernel)
theorem dX5_differ_32 : decode cX5_differ 32 = .ok (.aload_n 0, 1) := dk_42 (by decide +kernel)
theorem dX5_differ_33 : decode cX5_differ 33 = .ok (.getfield 35, 3) := dk_180 (by decide +kernel)
theorem dX5_differ_36 : decode cX5_differ 36 = .ok (.iload_n 2, 1) := dk_28 (by decide +kernel)
theorem dX5_differ_37 : decode cX5_differ 37 = .ok (.iaload, 1) := dk_46 (by decide +kernel)
theorem dX5_differ_38 : decode cX5_differ 38 = .ok (.aload_n 0, 1) := dk_42 (by decide +kernel)
theorem dX5_differ_39 : decode cX5_differ 39 = .ok (.getfield 35, 3) := dk_180 (by decide +kernel)
theorem dX5_differ_42 : decode cX5_differ 42 = .ok (.iload_n 3, 1) := dk_29 (by decide +kernel)
theorem dX5_differ_43 : decode cX5_differ 43 = .ok (.iaload, 1) := dk_46 (by decide +kernel)
theorem dX5_differ_44 : decode cX5_differ 44 = .ok (.if_icmp .ne 5, 3) := dk_160 (by decide +kernel)
theorem dX5_differ_47 : decode cX5_differ 47 = .ok (.iconst 0, 1) := dk_3 (by decide +kernel)
theorem dX5_differ_48 : decode cX5_differ 48 = .ok (.ireturn, 1) := dk_172 (by decide +kernel)
theorem dX5_differ_49 : decode cX5_differ 49 = .ok (.iinc 3 1, 3) := dk_132 (by decide +kernel)
theorem dX5_differ_52 : decode cX5_differ 52 = .ok (.goto (-37), 3) := dk_167 (by decide +kernel)
theorem dX5_differ_55 : decode cX5_differ 55 = .ok (.iinc 2 1, 3) := dk_132 (by decide +kernel)
theorem dX5_differ_58 : decode cX5_differ 58 = .ok (.goto (-56), 3) := dk_167 (by decide +kernel)
theorem dX5_differ_61 : decode cX5_differ 61 = .ok (.iconst 1, 1) := dk_4 (by decide +kernel)
theorem dX5_differ_62 : decode cX5_differ 62 = .ok (.ireturn, 1) := dk_172 (by decide +kernel)
def wsMX5_differ : List Cond := .code yX5_differ cX5_differ 4 (some .boolean) :: ([.fieldLink RX5 74 "OptimaWorks$Solver" "model" "LOptimaWorks$Model;", .fieldLink RX5 112 "OptimaWorks$Model" "variables" "I", .fieldLink RX5 35 "OptimaWorks$Solver" "start" "[I"] ++ wsX10 ++ wsX50)
theorem iwsMX5_differ_in1 : ∀ w ∈ wsX10, w ∈ wsMX5_differ := fun _ h => List.mem_cons_of_mem _ (List.mem_append_left _ (List.mem_append_right _ h))
theorem iwsMX5_differ_in5 : ∀ w ∈ wsX50, w ∈ wsMX5_differ := fun _ h => List.mem_cons_of_mem _ (List.mem_append_right _ h)
theorem gdwsMX5_differ : wsMX5_differ.all goodWord = true := gdC rfl (gdA (gdA (by decide +kernel : ([.fieldLink RX5 74 "OptimaWorks$Solver" "model" "LOptimaWorks$Model;", .fieldLink RX5 112 "OptimaWorks$Model" "variables" "I", .fieldLink RX5 35 "OptimaWorks$Solver" "start" "[I"] : List Cond).all goodWord = true) gdwsX10) gdwsX50)
set_option maxHeartbeats 4000000 in
set_option maxRecDepth 100000 in
/-- do they differ -/
theorem m_X5_differ (l : Launch) (dC : Nat → ClassId) (dI : Nat → Nat → Nat) (hO : Nat → Nat) (aO : Nat → Nat) (kO : Nat → ClassId) (hM : Nat → Nat) (hQ : Nat → Nat) (hw : Nat → Nat) (iO_answered : Int32) (iO_searched : Int32) (iO_searchedRelaxed : Int32) (iO_counted : Int32) (fO_countedCase : Nat → Int32) (gO_goalNumber : Nat → Int64) (gO_goalScale : Nat → Int64) (fO_start : Nat → Int32) (fO_column : Nat → Int32) (fO_chosen : Nat → Int32) (aM : Nat → Nat) (kM : Nat → ClassId) (iM_stands : Int32) (iM_variables : Int32) (iM_rows : Int32) (iM_goals : Int32) (iM_differents : Int32) (iM_cases : Int32) (fM_from : Nat → Int32) (fM_to : Nat → Int32) (fM_whole : Nat → Int32) (fM_ways : Nat → Int32) (iM_plainRows : Int32) (fM_plainRow : Nat → Int32) (fM_kept : Nat → Int32) (fM_goalOver : Nat → Int32) (fM_goalUnder : Nat → Int32) (fM_goalMax : Nat → Int32) (fM_different : Nat → Int32) (aQ : Nat → Nat) (kQ : Nat → ClassId) (fQ_inside : Nat → Int32) (fQ_outside : Nat → Int32) (fQ_shut : Nat → Int32) (iQ_rows : Int32) (iQ_allRows : Int32) (iQ_columns : Int32) (nW : Nat) (lw : Nat → Nat) (kw : ClassId) (wl : Nat → Int32) (wb : Nat → Int32) (wG : Nat → Nat → Int64) (p1 : Int32) (b_iO_answered : 0 ≤ iO_answered.toInt ∧ iO_answered.toInt ≤ 1) (b_iO_searched : 0 ≤ iO_searched.toInt ∧ iO_searched.toInt ≤ 1) (b_iO_searchedRelaxed : 0 ≤ iO_searchedRelaxed.toInt ∧ iO_searchedRelaxed.toInt ≤ 1) (b_iO_counted : (-1) ≤ iO_counted.toInt ∧ iO_counted.toInt ≤ 64) (b_fO_countedCase : ∀ q : Nat, 0 ≤ (fO_countedCase q).toInt ∧ (fO_countedCase q).toInt ≤ 200000) (b_fO_column : ∀ q : Nat, (-1) ≤ (fO_column q).toInt ∧ (fO_column q).toInt ≤ 8) (b_fO_chosen : ∀ q : Nat, 0 ≤ (fO_chosen q).toInt ∧ (fO_chosen q).toInt ≤ 2) (b_iM_stands : 0 ≤ iM_stands.toInt ∧ iM_stands.toInt ≤ 1) (b_iM_variables : 0 ≤ iM_variables.toInt ∧ iM_variables.toInt ≤ 8) (b_iM_rows : 0 ≤ iM_rows.toInt ∧ iM_rows.toInt ≤ 12) (b_iM_goals : 0 ≤ iM_goals.toInt ∧ iM_goals.toInt ≤ 3) (b_iM_differents : 0 ≤ iM_differents.toInt ∧ iM_differents.toInt ≤ 8) (b_iM_cases : 0 ≤ iM_cases.toInt ∧ iM_cases.toInt ≤ 200000) (b_fM_ways : ∀ q : Nat, 0 ≤ (fM_ways q).toInt ∧ (fM_ways q).toInt ≤ 3) (b_iM_plainRows : 0 ≤ iM_plainRows.toInt ∧ iM_plainRows.toInt ≤ 12) (b_fM_plainRow : ∀ q : Nat, 0 ≤ (fM_plainRow q).toInt ∧ (fM_plainRow q).toInt ≤ 11) (b_pr : iM_plainRows.toInt ≤ iM_rows.toInt) (b_iQ_rows : 0 ≤ iQ_rows.toInt ∧ iQ_rows.toInt ≤ 40) (b_iQ_allRows : 0 ≤ iQ_allRows.toInt ∧ iQ_allRows.toInt ≤ 40) (b_iQ_columns : 0 ≤ iQ_columns.toInt ∧ iQ_columns.toInt ≤ 40) (b_tb : TbO iQ_rows iQ_allRows iQ_columns) (b_wl : ∀ q : Nat, 0 ≤ (wl q).toInt ∧ (wl q).toInt ≤ 14) (b_wb : ∀ q : Nat, 0 ≤ (wb q).toInt ∧ (wb q).toInt ≤ 1) (hnW : 432 ≤ nW) (sz : Nat) : Met l yX5_differ wsMX5_differ ({ frames := 0, cells := 0, slots := 0, locals := 0 }) (va_Pc [.ref (hO 0), .int p1] (fun U => U.heap.size = sz ∧ va_P (dC, dI) vwCl (WO hO aO kO hM hQ hw iO_answered iO_searched iO_searchedRelaxed iO_counted fO_countedCase gO_goalNumber gO_goalScale fO_start fO_column fO_chosen ++ (WM hM aM kM iM_stands iM_variables iM_rows iM_goals iM_differents iM_cases fM_from fM_to fM_whole fM_ways iM_plainRows fM_plainRow fM_kept fM_goalOver fM_goalUnder fM_goalMax fM_different ++ (WQ hQ aQ kQ hw fQ_inside fQ_outside fQ_shut iQ_rows iQ_allRows iQ_columns ++ (WW nW hw lw kw wl wb wG)))) U.heap ∧ va_K (dC, dI) vwCl (tO kO ++ (tM kM ++ (tQ kQ ++ (tW kw)))) U ∧ va_D (fun _ => True) (WO hO aO kO hM hQ hw iO_answered iO_searched iO_searchedRelaxed iO_counted fO_countedCase gO_goalNumber gO_goalScale fO_start fO_column fO_chosen ++ (WM hM aM kM iM_stands iM_variables iM_rows iM_goals iM_differents iM_cases fM_from fM_to fM_whole fM_ways iM_plainRows fM_plainRow fM_kept fM_goalOver fM_goalUnder fM_goalMax fM_different ++ (WQ hQ aQ kQ hw fQ_inside fQ_outside fQ_shut iQ_rows iQ_allRows iQ_columns ++ (WW nW hw lw kw wl wb wG)))))) (va_Qi (fun (r : Int32) (u : Unit) => (0 ≤ r.toInt ∧ r.toInt ≤ 1)) (fun (u : Unit) t => va_P (dC, dI) vwCl (WO hO aO kO hM hQ hw iO_answered iO_searched iO_searchedRelaxed iO_counted fO_countedCase gO_goalNumber gO_goalScale fO_start fO_column fO_chosen ++ (WM hM aM kM iM_stands iM_variables iM_rows iM_goals iM_differents iM_cases fM_from fM_to fM_whole fM_ways iM_plainRows fM_plainRow fM_kept fM_goalOver fM_goalUnder fM_goalMax fM_different ++ (WQ hQ aQ kQ hw fQ_inside fQ_outside fQ_shut iQ_rows iQ_allRows iQ_columns ++ (WW nW hw lw kw wl wb wG)))) t.heap ∧ va_D (va_A (WO hO aO kO hM hQ hw iO_answered iO_searched iO_searchedRelaxed iO_counted fO_countedCase gO_goalNumber gO_goalScale fO_start fO_column fO_chosen ++ (WM hM aM kM iM_stands iM_variables iM_rows iM_goals iM_differents iM_cases fM_from fM_to fM_whole fM_ways iM_plainRows fM_plainRow fM_kept fM_goalOver fM_goalUnder fM_goalMax fM_different ++ (WQ hQ aQ kQ hw fQ_inside fQ_outside fQ_shut iQ_rows iQ_allRows iQ_columns ++ (WW nW hw lw kw wl wb wG)))) sz) (WO hO aO kO hM hQ hw iO_answered iO_searched iO_searchedRelaxed iO_counted fO_countedCase gO_goalNumber gO_goalScale fO_start fO_column fO_chosen ++ (WM hM aM kM iM_stands iM_variables iM_rows iM_goals iM_differents iM_cases fM_from fM_to fM_whole fM_ways iM_plainRows fM_plainRow fM_kept fM_goalOver fM_goalUnder fM_goalMax fM_different ++ (WQ hQ aQ kQ hw fQ_inside fQ_outside fQ_shut iQ_rows iQ_allRows iQ_columns ++ (WW nW hw lw kw wl wb wG))))) (va_A (WO hO aO kO hM hQ hw iO_answered iO_searched iO_searchedRelaxed iO_counted fO_countedCase gO_goalNumber gO_goalScale fO_start fO_column fO_chosen ++ (WM hM aM kM iM_stands iM_variables iM_rows iM_goals iM_differents iM_cases fM_from fM_to fM_whole fM_ways iM_plainRows fM_plainRow fM_kept fM_goalOver fM_goalUnder fM_goalMax fM_different ++ (WQ hQ aQ kQ hw fQ_inside fQ_outside fQ_shut iQ_rows iQ_allRows iQ_columns ++ (WW nW hw lw kw wl wb wG)))) sz)) 0 0 (va_A (WO hO aO kO hM hQ hw iO_answered iO_searched iO_searchedRelaxed iO_counted fO_countedCase gO_goalNumber gO_goalScale fO_start fO_column fO_chosen ++ (WM hM aM kM iM_stands iM_variables iM_rows iM_goals iM_differents iM_cases fM_from fM_to fM_whole fM_ways iM_plainRows fM_plainRow fM_kept fM_goalOver fM_goalUnder fM_goalMax fM_different ++ (WQ hQ aQ kQ hw fQ_inside fQ_outside fQ_shut iQ_rows iQ_allRows iQ_columns ++ (WW nW hw lw kw wl wb wG)))) sz) := by
  refine Met.ofW (cc := cX5_differ) (maxL := 4) (ret := (some .boolean)) (by decide) rfl ?_
  intro p e s m args below meth c s₁ B hml hv
  obtain ⟨rfl, hsz, hP, hK, hD0⟩ := hv
  have hx := B.exec
  have hb := B.bytes
  have hr := B.returns
  have hts := atoms_spec (ws := wsMX5_differ) B.pre
  have hown : s.vm.findClass RX5 = some m.cls := findClass_of_methodNamed B.named
  have hlocks := B.notSynchronized
  subst hsz
  have hD := hD0.self (sz := s.heap.size)
  generalize hAe : va_A (WO hO aO kO hM hQ hw iO_answered iO_searched iO_searchedRelaxed iO_counted fO_countedCase gO_goalNumber gO_goalScale fO_start fO_column fO_chosen ++ (WM hM aM kM iM_stands iM_variables iM_rows iM_goals iM_differents iM_cases fM_from fM_to fM_whole fM_ways iM_plainRows fM_plainRow fM_kept fM_goalOver fM_goalUnder fM_goalMax fM_different ++ (WQ hQ aQ kQ hw fQ_inside fQ_outside fQ_shut iQ_rows iQ_allRows iQ_columns ++ (WW nW hw lw kw wl wb wG)))) s.heap.size = A at hD ⊢
  have hA : ∀ q : Nat, s.heap.size ≤ q → A q := fun q h => by rw [← hAe]; exact Or.inr h
  have hS : va_S A s.heap s.heap [] := va_S.rf
  have hl := lv_entry ([.ref (hO 0), .int p1]) (n := 4) (Nat.le_of_ble_eq_true rfl)
  rw [lg_entry_eq]
  generalize (lg_sl ([.ref (hO 0), .int p1]) ++ List.replicate (4 - (lg_sl ([.ref (hO 0), .int p1])).length) Slot.unset).toArray = ls at hl ⊢
  have hl : lv_has ls 4 [(0, .ref (hO 0)), (1, .int p1)] := hl
  refine lv_iconst (v := 0) hx hb dX5_differ_0 (by decide) ?_
  refine lv_istore_n hx hb dX5_differ_1 rfl hl (by decide) rfl (fun ls (hl : lv_has ls _ ([(2, .int 0), (0, .ref (hO 0)), (1, .int p1)])) => ?_)
  have hl : lv_has _ _ ([(2, .int 0), (0, .ref (hO 0)), (1, .int p1)]) := lv_sub hl [0, 1, 2] rfl
  refine (fun (loop : ∀ (n9 : Nat) (l2_x2 : Int32) (H : Heap) (locs : List Loc) (ls : Array Slot), (0 ≤ l2_x2.toInt ∧ l2_x2.toInt ≤ 8) → (8 - l2_x2.toInt < ((n9 : Nat) : Int)) → va_P (dC, dI) vwCl (WO hO aO kO hM hQ hw iO_answered iO_searched iO_searchedRelaxed iO_counted fO_countedCase gO_goalNumber gO_goalScale fO_start fO_column fO_chosen ++ (WM hM aM kM iM_stands iM_variables iM_rows iM_goals iM_differents iM_cases fM_from fM_to fM_whole fM_ways iM_plainRows fM_plainRow fM_kept fM_goalOver fM_goalUnder fM_goalMax fM_different ++ (WQ hQ aQ kQ hw fQ_inside fQ_outside fQ_shut iQ_rows iQ_allRows iQ_columns ++ (WW nW hw lw kw wl wb wG)))) H → va_D A (WO hO aO kO hM hQ hw iO_answered iO_searched iO_searchedRelaxed iO_counted fO_countedCase gO_goalNumber gO_goalScale fO_start fO_column fO_chosen ++ (WM hM aM kM iM_stands iM_variables iM_rows iM_goals iM_differents iM_cases fM_from fM_to fM_whole fM_ways iM_plainRows fM_plainRow fM_kept fM_goalOver fM_goalUnder fM_goalMax fM_different ++ (WQ hQ aQ kQ hw fQ_inside fQ_outside fQ_shut iQ_rows iQ_allRows iQ_columns ++ (WW nW hw lw kw wl wb wG)))) → va_S A s.heap H locs → lv_has ls 4 [(2, .int l2_x2), (0, .ref (hO 0)), (1, .int p1)] → W p l e _ s m _ below meth c H locs 0 0 _ (F0 m 2 ls [])) => loop (9) 0 _ _ _ (show 0 ≤ (0 : Int32).toInt ∧ (0 : Int32).toInt ≤ 8 from by decide) ((by have e9 : (0 : Int32).toInt = 0 := (by decide : (0 : Int32).toInt = 0); omega)) hP hD hS hl) ?_
  intro n9
  induction n9 with
  | zero => intro l2_x2 H locs ls b_l2_x2 hf9; exact False.elim (by omega)
  | succ n9 ihx2 =>
    intro l2_x2 H locs ls b_l2_x2 hfx2 hP hD hS hl
    refine lv_iload_n hx hb dX5_differ_2 rfl (lv_at hl 0 rfl) ?_
    refine lv_aload_n hx hb dX5_differ_3 rfl (lv_at hl 1 rfl) ?_
    refine va_get (D := (dC, dI)) (ci := 5) (v := .ref (hM 0)) (C := RX5) (T := TX5) (N := 19) hx hb hts iwsMX5_differ_in5 hown hK hP 0 rfl rfl 0 (by decide) (hts (.fieldLink RX5 74 "OptimaWorks$Solver" "model" "LOptimaWorks$Model;") (by decide +kernel)) (fun _ h9 => h9) rfl dX5_differ_4 ?_
    refine va_get (D := (dC, dI)) (ci := 1) (v := .int iM_variables) (C := RX1) (T := TX1) (N := 17) hx hb hts iwsMX5_differ_in1 hown hK hP 11 rfl rfl 1 (by decide) (hts (.fieldLink RX5 112 "OptimaWorks$Model" "variables" "I") (by decide +kernel)) (fun _ h9 => h9) rfl dX5_differ_7 ?_
    refine lv_icmp_ge (tgt := 61) hx hb dX5_differ_10 (by decide) (fun c_10 => ?_) (fun c_10 => ?_)
    · have t_10 : l2_x2.toInt ≥ iM_variables.toInt := toI_ge c_10 rfl rfl
      refine lv_iconst (v := 1) hx hb dX5_differ_61 (by decide) ?_
      refine W.widen (k := 0) (n := 0) (by decide +kernel) (by decide +kernel) ?_
      exact W.zret (v := 1) hx hb hr rfl (fun t9_ ht hW => ⟨⟨(1 : Int32), (), rfl, (show 0 ≤ (1 : Int32).toInt ∧ (1 : Int32).toInt ≤ 1 from by decide), by rw [ht]; exact hP, hD⟩, hS.F ht⟩) hS.2.2 dX5_differ_62
    · have t_10 : ¬ l2_x2.toInt ≥ iM_variables.toInt := toI_nge c_10 rfl rfl
      refine lv_iconst (v := 0) hx hb dX5_differ_13 (by decide) ?_
      refine lv_istore_n hx hb dX5_differ_14 rfl hl (by decide) rfl (fun ls (hl : lv_has ls _ ([(3, .int 0), (2, .int l2_x2), (0, .ref (hO 0)), (1, .int p1)])) => ?_)
      have hl : lv_has _ _ ([(3, .int 0), (2, .int l2_x2), (0, .ref (hO 0)), (1, .int p1)]) := lv_sub hl [0, 1, 2, 3] rfl
      refine (fun (loop : ∀ (n9 : Nat) (l3_x15 : Int32) (H : Heap) (locs : List Loc) (ls : Array Slot), (0 ≤ l3_x15.toInt ∧ l3_x15.toInt ≤ 8) → (8 - l3_x15.toInt < ((n9 : Nat) : Int)) → va_P (dC, dI) vwCl (WO hO aO kO hM hQ hw iO_answered iO_searched iO_searchedRelaxed iO_counted fO_countedCase gO_goalNumber gO_goalScale fO_start fO_column fO_chosen ++ (WM hM aM kM iM_stands iM_variables iM_rows iM_goals iM_differents iM_cases fM_from fM_to fM_whole fM_ways iM_plainRows fM_plainRow fM_kept fM_goalOver fM_goalUnder fM_goalMax fM_different ++ (WQ hQ aQ kQ hw fQ_inside fQ_outside fQ_shut iQ_rows iQ_allRows iQ_columns ++ (WW nW hw lw kw wl wb wG)))) H → va_D A (WO hO aO kO hM hQ hw iO_answered iO_searched iO_searchedRelaxed iO_counted fO_countedCase gO_goalNumber gO_goalScale fO_start fO_column fO_chosen ++ (WM hM aM kM iM_stands iM_variables iM_rows iM_goals iM_differents iM_cases fM_from fM_to fM_whole fM_ways iM_plainRows fM_plainRow fM_kept fM_goalOver fM_goalUnder fM_goalMax fM_different ++ (WQ hQ aQ kQ hw fQ_inside fQ_outside fQ_shut iQ_rows iQ_allRows iQ_columns ++ (WW nW hw lw kw wl wb wG)))) → va_S A s.heap H locs → lv_has ls 4 [(3, .int l3_x15), (2, .int l2_x2), (0, .ref (hO 0)), (1, .int p1)] → W p l e _ s m _ below meth c H locs 0 0 _ (F0 m 15 ls [])) => loop (9) 0 _ _ _ (show 0 ≤ (0 : Int32).toInt ∧ (0 : Int32).toInt ≤ 8 from by decide) ((by have e9 : (0 : Int32).toInt = 0 := (by decide : (0 : Int32).toInt = 0); omega)) hP hD hS hl) ?_
      intro n9
      induction n9 with
      | zero => intro l3_x15 H locs ls b_l3_x15 hf9; exact False.elim (by omega)
      | succ n9 ihx15 =>
        intro l3_x15 H locs ls b_l3_x15 hfx15 hP hD hS hl
        refine lv_iload_n hx hb dX5_differ_15 rfl (lv_at hl 0 rfl) ?_
        refine lv_iload_n hx hb dX5_differ_16 rfl (lv_at hl 1 rfl) ?_
        refine lv_icmp_ge (tgt := 55) hx hb dX5_differ_17 (by decide) (fun c_17 => ?_) (fun c_17 => ?_)
        · have t_17 : l3_x15.toInt ≥ l2_x2.toInt := toI_ge c_17 rfl rfl
          refine lv_iinc (v := (iI (l2_x2.toInt + 1))) hx hb dX5_differ_55 hl (k := 1) rfl (iI_add2 (iI_of _) (by decide : (1 : Int32) = iI 1)) (by decide) rfl (fun ls (hl : lv_has ls _ ([(2, .int (iI (l2_x2.toInt + 1))), (3, .int l3_x15), (0, .ref (hO 0)), (1, .int p1)])) => ?_)
          refine lv_goto (tgt := 2) hx hb dX5_differ_58 (by decide) ?_
          have hl : lv_has _ _ ([(2, .int (iI (l2_x2.toInt + 1))), (0, .ref (hO 0)), (1, .int p1)]) := lv_sub hl [0, 2, 3] rfl
          exact ihx2 (iI (l2_x2.toInt + 1)) _ _ _ (iI_rng (Int.le_trans (by decide) (Int.add_le_add (b_l2_x2.1) (Int.le_refl _))) (by omega) (by decide) (by decide)) (by have e9 : ((iI (l2_x2.toInt + 1))).toInt = (l2_x2.toInt + 1) := (iI_t (Int.le_trans (by decide) (Int.add_le_add (b_l2_x2.1) (Int.le_refl _))) (Int.le_trans (Int.add_le_add (b_l2_x2.2) (Int.le_refl _)) (by decide))); omega) hP hD hS hl
        · have t_17 : ¬ l3_x15.toInt ≥ l2_x2.toInt := toI_nge c_17 rfl rfl
          refine lv_iload_n hx hb dX5_differ_20 rfl (lv_at hl 3 rfl) ?_
          refine lv_iload_n hx hb dX5_differ_21 rfl (lv_at hl 1 rfl) ?_
          refine lv_ishr hx hb dX5_differ_22 ?_
          refine lv_topi (fun v31 hv31 => ?_)
          clear hv31
          refine lv_iload_n hx hb dX5_differ_23 rfl (lv_at hl 3 rfl) ?_
          refine lv_iload_n hx hb dX5_differ_24 rfl (lv_at hl 0 rfl) ?_
          refine lv_ishr hx hb dX5_differ_25 ?_
          refine lv_topi (fun v32 hv32 => ?_)
          clear hv32
          refine lv_iand hx hb dX5_differ_26 ?_
          refine lv_topi (fun v33 hv33 => ?_)
          clear hv33
          refine lv_iconst (v := 1) hx hb dX5_differ_27 (by decide) ?_
          refine lv_iand hx hb dX5_differ_28 ?_
          refine lv_topi (fun v34 hv34 => ?_)
          have b_v34 : 0 ≤ v34.toInt ∧ v34.toInt ≤ 1 := by rw [hv34]; exact and_rng _ (by decide) (by decide)
          clear hv34
          refine lv_if_eq (tgt := 49) hx hb dX5_differ_29 (by decide) (fun c_29 => ?_) (fun c_29 => ?_)
          · have t_29 : v34.toInt = 0 := toI_eq c_29 rfl (by decide : (0 : Int32).toInt = 0)
            refine lv_iinc (v := (iI (l3_x15.toInt + 1))) hx hb dX5_differ_49 hl (k := 0) rfl (iI_add2 (iI_of _) (by decide : (1 : Int32) = iI 1)) (by decide) rfl (fun ls (hl : lv_has ls _ ([(3, .int (iI (l3_x15.toInt + 1))), (2, .int l2_x2), (0, .ref (hO 0)), (1, .int p1)])) => ?_)
            refine lv_goto (tgt := 15) hx hb dX5_differ_52 (by decide) ?_
            have hl : lv_has _ _ ([(3, .int (iI (l3_x15.toInt + 1))), (2, .int l2_x2), (0, .ref (hO 0)), (1, .int p1)]) := lv_sub hl [0, 1, 2, 3] rfl
            exact ihx15 (iI (l3_x15.toInt + 1)) _ _ _ (iI_rng (Int.le_trans (by decide) (Int.add_le_add (b_l3_x15.1) (Int.le_refl _))) (by omega) (by decide) (by decide)) (by have e9 : ((iI (l3_x15.toInt + 1))).toInt = (l3_x15.toInt + 1) := (iI_t (Int.le_trans (by decide) (Int.add_le_add (b_l3_x15.1) (Int.le_refl _))) (Int.le_trans (Int.add_le_add (b_l3_x15.2) (Int.le_refl _)) (by decide))); omega) hP hD hS hl
          · have t_29 : ¬ v34.toInt = 0 := toI_neq c_29 rfl (by decide : (0 : Int32).toInt = 0)
            refine lv_aload_n hx hb dX5_differ_32 rfl (lv_at hl 2 rfl) ?_
            refine va_get (D := (dC, dI)) (ci := 5) (v := .ref (aO 3)) (C := RX5) (T := TX5) (N := 19) hx hb hts iwsMX5_differ_in5 hown hK hP 0 rfl rfl 9 (by decide) (hts (.fieldLink RX5 35 "OptimaWorks$Solver" "start" "[I") (by decide +kernel)) (fun _ h9 => h9) rfl dX5_differ_33 ?_
            refine lv_iload_n hx hb dX5_differ_36 rfl (lv_at hl 1 rfl) ?_
            refine va_iald (cA := kO 3) (n := 8) (f := fO_start) hx hb hK hP 4 3 rfl rfl (vp_in_iff.mpr ⟨b_l2_x2.1, (by omega)⟩) dX5_differ_37 ?_
            refine lv_topi (fun v35 hv35 => ?_)
            clear hv35
            refine lv_aload_n hx hb dX5_differ_38 rfl (lv_at hl 2 rfl) ?_
            refine va_get (D := (dC, dI)) (ci := 5) (v := .ref (aO 3)) (C := RX5) (T := TX5) (N := 19) hx hb hts iwsMX5_differ_in5 hown hK hP 0 rfl rfl 9 (by decide) (hts (.fieldLink RX5 35 "OptimaWorks$Solver" "start" "[I") (by decide +kernel)) (fun _ h9 => h9) rfl dX5_differ_39 ?_
            refine lv_iload_n hx hb dX5_differ_42 rfl (lv_at hl 0 rfl) ?_
            refine va_iald (cA := kO 3) (n := 8) (f := fO_start) hx hb hK hP 4 3 rfl rfl (vp_in_iff.mpr ⟨b_l3_x15.1, (Int.lt_of_lt_of_le (Int.not_le.mp t_17) (Int.le_trans b_l2_x2.2 (by decide)))⟩) dX5_differ_43 ?_
            refine lv_topi (fun v36 hv36 => ?_)
            clear hv36
            refine lv_icmp_ne (tgt := 49) hx hb dX5_differ_44 (by decide) (fun c_44 => ?_) (fun c_44 => ?_)
            · have t_44 : v35.toInt ≠ v36.toInt := toI_ne c_44 rfl rfl
              refine lv_iinc (v := (iI (l3_x15.toInt + 1))) hx hb dX5_differ_49 hl (k := 0) rfl (iI_add2 (iI_of _) (by decide : (1 : Int32) = iI 1)) (by decide) rfl (fun ls (hl : lv_has ls _ ([(3, .int (iI (l3_x15.toInt + 1))), (2, .int l2_x2), (0, .ref (hO 0)), (1, .int p1)])) => ?_)
              refine lv_goto (tgt := 15) hx hb dX5_differ_52 (by decide) ?_
              have hl : lv_has _ _ ([(3, .int (iI (l3_x15.toInt + 1))), (2, .int l2_x2), (0, .ref (hO 0)), (1, .int p1)]) := lv_sub hl [0, 1, 2, 3] rfl
              exact ihx15 (iI (l3_x15.toInt + 1)) _ _ _ (iI_rng (Int.le_trans (by decide) (Int.add_le_add (b_l3_x15.1) (Int.le_refl _))) (by omega) (by decide) (by decide)) (by have e9 : ((iI (l3_x15.toInt + 1))).toInt = (l3_x15.toInt + 1) := (iI_t (Int.le_trans (by decide) (Int.add_le_add (b_l3_x15.1) (Int.le_refl _))) (Int.le_trans (Int.add_le_add (b_l3_x15.2) (Int.le_refl _)) (by decide))); omega) hP hD hS hl
            · have t_44 : v35.toInt = v36.toInt := toI_nne c_44 rfl rfl
              refine lv_iconst (v := 0) hx hb dX5_differ_47 (by decide) ?_
              refine W.widen (k := 0) (n := 0) (by decide +kernel) (by decide +kernel) ?_
              exact W.zret (v := 0) hx hb hr rfl (fun t9_ ht hW => ⟨⟨(0 : Int32), (), rfl, (show 0 ≤ (0 : Int32).toInt ∧ (0 : Int32).toInt ≤ 1 from by decide), by rw [ht]; exact hP, hD⟩, hS.F ht⟩) hS.2.2 dX5_differ_48
theorem dX5_allDiffer_0 : decode cX5_allDiffer 0 = .ok (.iconst 0, 1) := dk_3 (by decide +kernel)
theorem dX5_allDiffer_1 : decode cX5_allDiffer 1 = .ok (.istore_n 1, 1) := dk_60 (by decide +kernel)
theorem dX5_allDiffer_2 : decode cX5_allDiffer 2 = .ok (.iload_n 1, 1) := dk_27 (by decide +kernel)
theorem dX5_allDiffer_3 : decode cX5_allDiffer 3 = .ok (.aload_n 0, 1) := dk_42 (by decide +kernel)
theorem dX5_allDiffer_4 : decode cX5_allDiffer 4 = .ok (.getfield 74, 3) := dk_180 (by decide +kernel)
theorem dX5_allDiffer_7 : decode cX5_allDiffer 7 = .ok (.getfield 157, 3) := dk_180 (by decide +kernel)
theorem dX5_allDiffer_10 : decode cX5_allDiffer 10 = .ok (.if_icmp .ge 27, 3) := dk_162 (by decide +kernel)
theorem dX5_allDiffer_13 : decode cX5_allDiffer 13 = .ok (.aload_n 0, 1) := dk_42 (by decide +kernel)
theorem dX5_allDiffer_14 : decode cX5_allDiffer 14 = .ok (.aload_n 0, 1) := dk_42 (by decide +kernel)
theorem dX5_allDiffer_15 : decode cX5_allDiffer 15 = .ok (.getfield 74, 3) := dk_180 (by decide +kernel)
theorem dX5_allDiffer_18 : decode cX5_allDiffer 18 = .ok (.getfield 160, 3) := dk_180 (by decide +kernel)
theorem dX5_allDiffer_21 : decode cX5_allDiffer 21 = .ok (.iload_n 1, 1) := dk_27 (by decide +kernel)
theorem dX5_allDiffer_22 : decode cX5_allDiffer 22 = .ok (.iaload, 1) := dk_46 (by decide +kernel)
theorem dX5_allDiffer_23 : decode cX5_allDiffer 23 = .ok (.invokevirtual 163, 3) := dk_182 (by decide +kernel)
theorem dX5_allDiffer_26 : decode cX5_allDiffer 26 = .ok (.ifCond .ne 5, 3) := dk_154 (by decide +kernel)
theorem dX5_allDiffer_29 : decode cX5_allDiffer 29 = .ok (.iconst 0, 1) := dk_3 (by decide +kernel)
theorem dX5_allDiffer_30 : decode cX5_allDiffer 30 = .ok (.ireturn, 1) := dk_172 (by decide +kernel)
theorem dX5_allDiffer_31 : decode cX5_allDiffer 31 = .ok (.iinc 1 1, 3) := dk_132 (by decide +kernel)
theorem dX5_allDiffer_34 : decode cX5_allDiffer 34 = .ok (.goto (-32), 3) := dk_167 (by decide +kernel)
theorem dX5_allDiffer_37 : decode cX5_allDiffer 37 = .ok (.iconst 1, 1) := dk_4 (by decide +kernel)
theorem dX5_allDiffer_38 : decode cX5_allDiffer 38 = .ok (.ireturn, 1) := dk_172 (by decide +kernel)
def wsMX5_allDiffer : List Cond := .code yX5_allDiffer cX5_allDiffer 2 (some .boolean) :: ([.fieldLink RX5 74 "OptimaWorks$Solver" "model" "LOptimaWorks$Model;", .fieldLink RX5 157 "OptimaWorks$Model" "differents" "I", .fieldLink RX5 160 "OptimaWorks$Model" "different" "[I"] ++ wsX10 ++ wsX50 ++ (wsV RX5 163 RX5 yX5_differ wsMX5_differ))
theorem iwsMX5_allDiffer_in1 : ∀ w ∈ wsX10, w ∈ wsMX5_allDiffer := fun _ h => List.mem_cons_of_mem _ (List.mem_append_left _ (List.mem_append_left _ (List.mem_append_right _ h)))
theorem iwsMX5_allDiffer_in5 : ∀ w ∈ wsX50, w ∈ wsMX5_allDiffer := fun _ h => List.mem_cons_of_mem _ (List.mem_append_left _ (List.mem_append_right _ h))
theorem gwsMX5_allDiffer_0 : GoodIn wsMX5_allDiffer (wsV RX5 163 RX5 yX5_differ wsMX5_differ) := goodIn_sub (fun _ h => List.mem_cons_of_mem _ (List.mem_append_right _ h)) (gdV (by decide +kernel) gdwsMX5_differ)
theorem gdwsMX5_allDiffer : wsMX5_allDiffer.all goodWord = true := gdC rfl (gdA (gdA (gdA (by decide +kernel : ([.fieldLink RX5 74 "OptimaWorks$Solver" "model" "LOptimaWorks$Model;", .fieldLink RX5 157 "OptimaWorks$Model" "differents" "I", .fieldLink RX5 160 "OptimaWorks$Model" "different" "[I"] : List Cond).all goodWord = true) gdwsX10) gdwsX50) (gdV (by decide +kernel) gdwsMX5_differ))
set_option maxHeartbeats 4000000 in
set_option maxRecDepth 100000 in
/-- do all differ -/
theorem m_X5_allDiffer (l : Launch) (dC : Nat → ClassId) (dI : Nat → Nat → Nat) (hO : Nat → Nat) (aO : Nat → Nat) (kO : Nat → ClassId) (hM : Nat → Nat) (hQ : Nat → Nat) (hw : Nat → Nat) (iO_answered : Int32) (iO_searched : Int32) (iO_searchedRelaxed : Int32) (iO_counted : Int32) (fO_countedCase : Nat → Int32) (gO_goalNumber : Nat → Int64) (gO_goalScale : Nat → Int64) (fO_start : Nat → Int32) (fO_column : Nat → Int32) (fO_chosen : Nat → Int32) (aM : Nat → Nat) (kM : Nat → ClassId) (iM_stands : Int32) (iM_variables : Int32) (iM_rows : Int32) (iM_goals : Int32) (iM_differents : Int32) (iM_cases : Int32) (fM_from : Nat → Int32) (fM_to : Nat → Int32) (fM_whole : Nat → Int32) (fM_ways : Nat → Int32) (iM_plainRows : Int32) (fM_plainRow : Nat → Int32) (fM_kept : Nat → Int32) (fM_goalOver : Nat → Int32) (fM_goalUnder : Nat → Int32) (fM_goalMax : Nat → Int32) (fM_different : Nat → Int32) (aQ : Nat → Nat) (kQ : Nat → ClassId) (fQ_inside : Nat → Int32) (fQ_outside : Nat → Int32) (fQ_shut : Nat → Int32) (iQ_rows : Int32) (iQ_allRows : Int32) (iQ_columns : Int32) (nW : Nat) (lw : Nat → Nat) (kw : ClassId) (wl : Nat → Int32) (wb : Nat → Int32) (wG : Nat → Nat → Int64) (b_iO_answered : 0 ≤ iO_answered.toInt ∧ iO_answered.toInt ≤ 1) (b_iO_searched : 0 ≤ iO_searched.toInt ∧ iO_searched.toInt ≤ 1) (b_iO_searchedRelaxed : 0 ≤ iO_searchedRelaxed.toInt ∧ iO_searchedRelaxed.toInt ≤ 1) (b_iO_counted : (-1) ≤ iO_counted.toInt ∧ iO_counted.toInt ≤ 64) (b_fO_countedCase : ∀ q : Nat, 0 ≤ (fO_countedCase q).toInt ∧ (fO_countedCase q).toInt ≤ 200000) (b_fO_column : ∀ q : Nat, (-1) ≤ (fO_column q).toInt ∧ (fO_column q).toInt ≤ 8) (b_fO_chosen : ∀ q : Nat, 0 ≤ (fO_chosen q).toInt ∧ (fO_chosen q).toInt ≤ 2) (b_iM_stands : 0 ≤ iM_stands.toInt ∧ iM_stands.toInt ≤ 1) (b_iM_variables : 0 ≤ iM_variables.toInt ∧ iM_variables.toInt ≤ 8) (b_iM_rows : 0 ≤ iM_rows.toInt ∧ iM_rows.toInt ≤ 12) (b_iM_goals : 0 ≤ iM_goals.toInt ∧ iM_goals.toInt ≤ 3) (b_iM_differents : 0 ≤ iM_differents.toInt ∧ iM_differents.toInt ≤ 8) (b_iM_cases : 0 ≤ iM_cases.toInt ∧ iM_cases.toInt ≤ 200000) (b_fM_ways : ∀ q : Nat, 0 ≤ (fM_ways q).toInt ∧ (fM_ways q).toInt ≤ 3) (b_iM_plainRows : 0 ≤ iM_plainRows.toInt ∧ iM_plainRows.toInt ≤ 12) (b_fM_plainRow : ∀ q : Nat, 0 ≤ (fM_plainRow q).toInt ∧ (fM_plainRow q).toInt ≤ 11) (b_pr : iM_plainRows.toInt ≤ iM_rows.toInt) (b_iQ_rows : 0 ≤ iQ_rows.toInt ∧ iQ_rows.toInt ≤ 40) (b_iQ_allRows : 0 ≤ iQ_allRows.toInt ∧ iQ_allRows.toInt ≤ 40) (b_iQ_columns : 0 ≤ iQ_columns.toInt ∧ iQ_columns.toInt ≤ 40) (b_tb : TbO iQ_rows iQ_allRows iQ_columns) (b_wl : ∀ q : Nat, 0 ≤ (wl q).toInt ∧ (wl q).toInt ≤ 14) (b_wb : ∀ q : Nat, 0 ≤ (wb q).toInt ∧ (wb q).toInt ≤ 1) (hnW : 432 ≤ nW) (sz : Nat) : Met l yX5_allDiffer wsMX5_allDiffer ({ frames := 1, cells := 0, slots := 0, locals := 23 }) (va_Pc [.ref (hO 0)] (fun U => U.heap.size = sz ∧ va_P (dC, dI) vwCl (WO hO aO kO hM hQ hw iO_answered iO_searched iO_searchedRelaxed iO_counted fO_countedCase gO_goalNumber gO_goalScale fO_start fO_column fO_chosen ++ (WM hM aM kM iM_stands iM_variables iM_rows iM_goals iM_differents iM_cases fM_from fM_to fM_whole fM_ways iM_plainRows fM_plainRow fM_kept fM_goalOver fM_goalUnder fM_goalMax fM_different ++ (WQ hQ aQ kQ hw fQ_inside fQ_outside fQ_shut iQ_rows iQ_allRows iQ_columns ++ (WW nW hw lw kw wl wb wG)))) U.heap ∧ va_K (dC, dI) vwCl (tO kO ++ (tM kM ++ (tQ kQ ++ (tW kw)))) U ∧ va_D (fun _ => True) (WO hO aO kO hM hQ hw iO_answered iO_searched iO_searchedRelaxed iO_counted fO_countedCase gO_goalNumber gO_goalScale fO_start fO_column fO_chosen ++ (WM hM aM kM iM_stands iM_variables iM_rows iM_goals iM_differents iM_cases fM_from fM_to fM_whole fM_ways iM_plainRows fM_plainRow fM_kept fM_goalOver fM_goalUnder fM_goalMax fM_different ++ (WQ hQ aQ kQ hw fQ_inside fQ_outside fQ_shut iQ_rows iQ_allRows iQ_columns ++ (WW nW hw lw kw wl wb wG)))))) (va_Qi (fun (r : Int32) (u : Unit) => (0 ≤ r.toInt ∧ r.toInt ≤ 1)) (fun (u : Unit) t => va_P (dC, dI) vwCl (WO hO aO kO hM hQ hw iO_answered iO_searched iO_searchedRelaxed iO_counted fO_countedCase gO_goalNumber gO_goalScale fO_start fO_column fO_chosen ++ (WM hM aM kM iM_stands iM_variables iM_rows iM_goals iM_differents iM_cases fM_from fM_to fM_whole fM_ways iM_plainRows fM_plainRow fM_kept fM_goalOver fM_goalUnder fM_goalMax fM_different ++ (WQ hQ aQ kQ hw fQ_inside fQ_outside fQ_shut iQ_rows iQ_allRows iQ_columns ++ (WW nW hw lw kw wl wb wG)))) t.heap ∧ va_D (va_A (WO hO aO kO hM hQ hw iO_answered iO_searched iO_searchedRelaxed iO_counted fO_countedCase gO_goalNumber gO_goalScale fO_start fO_column fO_chosen ++ (WM hM aM kM iM_stands iM_variables iM_rows iM_goals iM_differents iM_cases fM_from fM_to fM_whole fM_ways iM_plainRows fM_plainRow fM_kept fM_goalOver fM_goalUnder fM_goalMax fM_different ++ (WQ hQ aQ kQ hw fQ_inside fQ_outside fQ_shut iQ_rows iQ_allRows iQ_columns ++ (WW nW hw lw kw wl wb wG)))) sz) (WO hO aO kO hM hQ hw iO_answered iO_searched iO_searchedRelaxed iO_counted fO_countedCase gO_goalNumber gO_goalScale fO_start fO_column fO_chosen ++ (WM hM aM kM iM_stands iM_variables iM_rows iM_goals iM_differents iM_cases fM_from fM_to fM_whole fM_ways iM_plainRows fM_plainRow fM_kept fM_goalOver fM_goalUnder fM_goalMax fM_different ++ (WQ hQ aQ kQ hw fQ_inside fQ_outside fQ_shut iQ_rows iQ_allRows iQ_columns ++ (WW nW hw lw kw wl wb wG))))) (va_A (WO hO aO kO hM hQ hw iO_answered iO_searched iO_searchedRelaxed iO_counted fO_countedCase gO_goalNumber gO_goalScale fO_start fO_column fO_chosen ++ (WM hM aM kM iM_stands iM_variables iM_rows iM_goals iM_differents iM_cases fM_from fM_to fM_whole fM_ways iM_plainRows fM_plainRow fM_kept fM_goalOver fM_goalUnder fM_goalMax fM_different ++ (WQ hQ aQ kQ hw fQ_inside fQ_outside fQ_shut iQ_rows iQ_allRows iQ_columns ++ (WW nW hw lw kw wl wb wG)))) sz)) 0 0 (va_A (WO hO aO kO hM hQ hw iO_answered iO_searched iO_searchedRelaxed iO_counted fO_countedCase gO_goalNumber gO_goalScale fO_start fO_column fO_chosen ++ (WM hM aM kM iM_stands iM_variables iM_rows iM_goals iM_differents iM_cases fM_from fM_to fM_whole fM_ways iM_plainRows fM_plainRow fM_kept fM_goalOver fM_goalUnder fM_goalMax fM_different ++ (WQ hQ aQ kQ hw fQ_inside fQ_outside fQ_shut iQ_rows iQ_allRows iQ_columns ++ (WW nW hw lw kw wl wb wG)))) sz) := by
  refine Met.ofW (cc := cX5_allDiffer) (maxL := 2) (ret := (some .boolean)) (by decide) rfl ?_
  intro p e s m args below meth c s₁ B hml hv
  obtain ⟨rfl, hsz, hP, hK, hD0⟩ := hv
  have hx := B.exec
  have hb := B.bytes
  have hr := B.returns
  have hts := atoms_spec (ws := wsMX5_allDiffer) B.pre
  have hown : s.vm.findClass RX5 = some m.cls := findClass_of_methodNamed B.named
  have hlocks := B.notSynchronized
  subst hsz
  have hD := hD0.self (sz := s.heap.size)
  generalize hAe : va_A (WO hO aO kO hM hQ hw iO_answered iO_searched iO_searchedRelaxed iO_counted fO_countedCase gO_goalNumber gO_goalScale fO_start fO_column fO_chosen ++ (WM hM aM kM iM_stands iM_variables iM_rows iM_goals iM_differents iM_cases fM_from fM_to fM_whole fM_ways iM_plainRows fM_plainRow fM_kept fM_goalOver fM_goalUnder fM_goalMax fM_different ++ (WQ hQ aQ kQ hw fQ_inside fQ_outside fQ_shut iQ_rows iQ_allRows iQ_columns ++ (WW nW hw lw kw wl wb wG)))) s.heap.size = A at hD ⊢
  have hA : ∀ q : Nat, s.heap.size ≤ q → A q := fun q h => by rw [← hAe]; exact Or.inr h
  have hS : va_S A s.heap s.heap [] := va_S.rf
  have hl := lv_entry ([.ref (hO 0)]) (n := 2) (Nat.le_of_ble_eq_true rfl)
  rw [lg_entry_eq]
  generalize (lg_sl ([.ref (hO 0)]) ++ List.replicate (2 - (lg_sl ([.ref (hO 0)])).length) Slot.unset).toArray = ls at hl ⊢
  have hl : lv_has ls 2 [(0, .ref (hO 0))] := hl
  refine lv_iconst (v := 0) hx hb dX5_allDiffer_0 (by decide) ?_
  refine lv_istore_n hx hb dX5_allDiffer_1 rfl hl (by decide) rfl (fun ls (hl : lv_has ls _ ([(1, .int 0), (0, .ref (hO 0))])) => ?_)
  have hl : lv_has _ _ ([(1, .int 0), (0, .ref (hO 0))]) := lv_sub hl [0, 1] rfl
  refine (fun (loop : ∀ (n9 : Nat) (l1_x2 : Int32) (H : Heap) (locs : List Loc) (ls : Array Slot), (0 ≤ l1_x2.toInt ∧ l1_x2.toInt ≤ 8) → (8 - l1_x2.toInt < ((n9 : Nat) : Int)) → va_P (dC, dI) vwCl (WO hO aO kO hM hQ hw iO_answered iO_searched iO_searchedRelaxed iO_counted fO_countedCase gO_goalNumber gO_goalScale fO_start fO_column fO_chosen ++ (WM hM aM kM iM_stands iM_variables iM_rows iM_goals iM_differents iM_cases fM_from fM_to fM_whole fM_ways iM_plainRows fM_plainRow fM_kept fM_goalOver fM_goalUnder fM_goalMax fM_different ++ (WQ hQ aQ kQ hw fQ_inside fQ_outside fQ_shut iQ_rows iQ_allRows iQ_columns ++ (WW nW hw lw kw wl wb wG)))) H → va_D A (WO hO aO kO hM hQ hw iO_answered iO_searched iO_searchedRelaxed iO_counted fO_countedCase gO_goalNumber gO_goalScale fO_start fO_column fO_chosen ++ (WM hM aM kM iM_stands iM_variables iM_rows iM_goals iM_differents iM_cases fM_from fM_to fM_whole fM_ways iM_plainRows fM_plainRow fM_kept fM_goalOver fM_goalUnder fM_goalMax fM_different ++ (WQ hQ aQ kQ hw fQ_inside fQ_outside fQ_shut iQ_rows iQ_allRows iQ_columns ++ (WW nW hw lw kw wl wb wG)))) → va_S A s.heap H locs → lv_has ls 2 [(1, .int l1_x2), (0, .ref (hO 0))] → W p l e _ s m _ below meth c H locs 0 0 _ (F0 m 2 ls [])) => loop (9) 0 _ _ _ (show 0 ≤ (0 : Int32).toInt ∧ (0 : Int32).toInt ≤ 8 from by decide) ((by have e9 : (0 : Int32).toInt = 0 := (by decide : (0 : Int32).toInt = 0); omega)) hP hD hS hl) ?_
  intro n9
  induction n9 with
  | zero => intro l1_x2 H locs ls b_l1_x2 hf9; exact False.elim (by omega)
  | succ n9 ihx2 =>
    intro l1_x2 H locs ls b_l1_x2 hfx2 hP hD hS hl
    refine lv_iload_n hx hb dX5_allDiffer_2 rfl (lv_at hl 0 rfl) ?_
    refine lv_aload_n hx hb dX5_allDiffer_3 rfl (lv_at hl 1 rfl) ?_
    refine va_get (D := (dC, dI)) (ci := 5) (v := .ref (hM 0)) (C := RX5) (T := TX5) (N := 19) hx hb hts iwsMX5_allDiffer_in5 hown hK hP 0 rfl rfl 0 (by decide) (hts (.fieldLink RX5 74 "OptimaWorks$Solver" "model" "LOptimaWorks$Model;") (by decide +kernel)) (fun _ h9 => h9) rfl dX5_allDiffer_4 ?_
    refine va_get (D := (dC, dI)) (ci := 1) (v := .int iM_differents) (C := RX1) (T := TX1) (N := 17) hx hb hts iwsMX5_allDiffer_in1 hown hK hP 11 rfl rfl 4 (by decide) (hts (.fieldLink RX5 157 "OptimaWorks$Model" "differents" "I") (by decide +kernel)) (fun _ h9 => h9) rfl dX5_allDiffer_7 ?_
    refine lv_icmp_ge (tgt := 37) hx hb dX5_allDiffer_10 (by decide) (fun c_10 => ?_) (fun c_10 => ?_)
    · have t_10 : l1_x2.toInt ≥ iM_differents.toInt := toI_ge c_10 rfl rfl
      refine lv_iconst (v := 1) hx hb dX5_allDiffer_37 (by decide) ?_
      refine W.widen (k := 0) (n := 0) (by decide +kernel) (by decide +kernel) ?_
      exact W.zret (v := 1) hx hb hr rfl (fun t9_ ht hW => ⟨⟨(1 : Int32), (), rfl, (show 0 ≤ (1 : Int32).toInt ∧ (1 : Int32).toInt ≤ 1 from by decide), by rw [ht]; exact hP, hD⟩, hS.F ht⟩) hS.2.2 dX5_allDiffer_38
    · have t_10 : ¬ l1_x2.toInt ≥ iM_differents.toInt := toI_nge c_10 rfl rfl
      refine lv_aload_n hx hb dX5_allDiffer_13 rfl (lv_at hl 1 rfl) ?_
      refine lv_aload_n hx hb dX5_allDiffer_14 rfl (lv_at hl 1 rfl) ?_
      refine va_get (D := (dC, dI)) (ci := 5) (v := .ref (hM 0)) (C := RX5) (T := TX5) (N := 19) hx hb hts iwsMX5_allDiffer_in5 hown hK hP 0 rfl rfl 0 (by decide) (hts (.fieldLink RX5 74 "OptimaWorks$Solver" "model" "LOptimaWorks$Model;") (by decide +kernel)) (fun _ h9 => h9) rfl dX5_allDiffer_15 ?_
      refine va_get (D := (dC, dI)) (ci := 1) (v := .ref (aM 9)) (C := RX1) (T := TX1) (N := 17) hx hb hts iwsMX5_allDiffer_in1 hown hK hP 11 rfl rfl 16 (by decide) (hts (.fieldLink RX5 160 "OptimaWorks$Model" "different" "[I") (by decide +kernel)) (fun _ h9 => h9) rfl dX5_allDiffer_18 ?_
      refine lv_iload_n hx hb dX5_allDiffer_21 rfl (lv_at hl 0 rfl) ?_
      refine va_iald (cA := kM 9) (n := 8) (f := fM_different) hx hb hK hP 21 19 rfl rfl (vp_in_iff.mpr ⟨b_l1_x2.1, (Int.lt_of_lt_of_le (Int.not_le.mp t_10) (Int.le_trans b_iM_differents.2 (by decide)))⟩) dX5_allDiffer_22 ?_
      refine lv_topi (fun v5 hv5 => ?_)
      clear hv5
      have hFc := allFree hD hS hA
      refine va_calli (va_runV (As := [.int v5]) (rest := []) ⟨hx, hb, hml, hown, hts⟩ (m_X5_differ l dC dI hO aO kO hM hQ hw iO_answered iO_searched iO_searchedRelaxed iO_counted fO_countedCase gO_goalNumber gO_goalScale fO_start fO_column fO_chosen aM kM iM_stands iM_variables iM_rows iM_goals iM_differents iM_cases fM_from fM_to fM_whole fM_ways iM_plainRows fM_plainRow fM_kept fM_goalOver fM_goalUnder fM_goalMax fM_different aQ kQ fQ_inside fQ_outside fQ_shut iQ_rows iQ_allRows iQ_columns nW lw kw wl wb wG v5 (b_iO_answered) (b_iO_searched) (b_iO_searchedRelaxed) (b_iO_counted) b_fO_countedCase b_fO_column b_fO_chosen (b_iM_stands) (b_iM_variables) (b_iM_rows) (b_iM_goals) (b_iM_differents) (b_iM_cases) b_fM_ways (b_iM_plainRows) b_fM_plainRow (by first | assumption | omega) (b_iQ_rows) (b_iQ_allRows) (b_iQ_columns) (by first | assumption | omega) b_wl b_wb (by omega) H.size) (cwV 1 hts gwsMX5_allDiffer_0 rfl rfl rfl hd_yX5_differ_RX5 (by decide +kernel)) (fz_pre (va_recv hK hP (ci := 5) (q0 := 0) rfl rfl) hP hK hD) rfl rfl hl.1 rfl (lv_room (Nat.le_of_ble_eq_true rfl)) dX5_allDiffer_23 (by decide +kernel)) hS (fun q _ h => hFc q h) hFc (fun r6 u t9_ H locs ht hvm hw9 hB9 hz1 hk1 hS => ?_)
      have b_r6 := hw9
      try dsimp only at b_r6
      have hP : va_P (dC, dI) vwCl (WO hO aO kO hM hQ hw iO_answered iO_searched iO_searchedRelaxed iO_counted fO_countedCase gO_goalNumber gO_goalScale fO_start fO_column fO_chosen ++ (WM hM aM kM iM_stands iM_variables iM_rows iM_goals iM_differents iM_cases fM_from fM_to fM_whole fM_ways iM_plainRows fM_plainRow fM_kept fM_goalOver fM_goalUnder fM_goalMax fM_different ++ (WQ hQ aQ kQ hw fQ_inside fQ_outside fQ_shut iQ_rows iQ_allRows iQ_columns ++ (WW nW hw lw kw wl wb wG)))) H := fz_P ht hB9.1
      have hD : va_D A (WO hO aO kO hM hQ hw iO_answered iO_searched iO_searchedRelaxed iO_counted fO_countedCase gO_goalNumber gO_goalScale fO_start fO_column fO_chosen ++ (WM hM aM kM iM_stands iM_variables iM_rows iM_goals iM_differents iM_cases fM_from fM_to fM_whole fM_ways iM_plainRows fM_plainRow fM_kept fM_goalOver fM_goalUnder fM_goalMax fM_different ++ (WQ hQ aQ kQ hw fQ_inside fQ_outside fQ_shut iQ_rows iQ_allRows iQ_columns ++ (WW nW hw lw kw wl wb wG)))) := hB9.2.weaken (fun _ q _ h => hFc q.1 h)
      refine lv_if_ne (tgt := 31) hx hb dX5_allDiffer_26 (by decide) (fun c_26 => ?_) (fun c_26 => ?_)
      · have t_26 : r6.toInt ≠ 0 := toI_ne c_26 rfl (by decide : (0 : Int32).toInt = 0)
        refine lv_iinc (v := (iI (l1_x2.toInt + 1))) hx hb dX5_allDiffer_31 hl (k := 0) rfl (iI_add2 (iI_of _) (by decide : (1 : Int32) = iI 1)) (by decide) rfl (fun ls (hl : lv_has ls _ ([(1, .int (iI (l1_x2.toInt + 1))), (0, .ref (hO 0))])) => ?_)
        refine lv_goto (tgt := 2) hx hb dX5_allDiffer_34 (by decide) ?_
        have hl : lv_has _ _ ([(1, .int (iI (l1_x2.toInt + 1))), (0, .ref (hO 0))]) := lv_sub hl [0, 1] rfl
        exact ihx2 (iI (l1_x2.toInt + 1)) _ _ _ (iI_rng (Int.le_trans (by decide) (Int.add_le_add (b_l1_x2.1) (Int.le_refl _))) (by omega) (by decide) (by decide)) (by have e9 : ((iI (l1_x2.toInt + 1))).toInt = (l1_x2.toInt + 1) := (iI_t (Int.le_trans (by decide) (Int.add_le_add (b_l1_x2.1) (Int.le_refl _))) (Int.le_trans (Int.add_le_add (b_l1_x2.2) (Int.le_refl _)) (by decide))); omega) hP hD hS hl
      · have t_26 : r6.toInt = 0 := toI_nne c_26 rfl (by decide : (0 : Int32).toInt = 0)
        refine lv_iconst (v := 0) hx hb dX5_allDiffer_29 (by decide) ?_
        refine W.widen (k := 0) (n := 0) (by decide +kernel) (by decide +kernel) ?_
        exact W.zret (v := 0) hx hb hr rfl (fun t9_ ht hW => ⟨⟨(0 : Int32), (), rfl, (show 0 ≤ (0 : Int32).toInt ∧ (0 : Int32).toInt ≤ 1 from by decide), by rw [ht]; exact hP, hD⟩, hS.F ht⟩) hS.2.2 dX5_allDiffer_30
theorem dX5_choose_0 : decode cX5_choose 0 = .ok (.iload_n 1, 1) := dk_27 (by decide +kernel)
theorem dX5_choose_1 : decode cX5_choose 1 = .ok (.istore_n 2, 1) := dk_61 (by decide +kernel)
theorem dX5_choose_2 : decode cX5_choose 2 = .ok (.aload_n 0, 1) := dk_42 (by decide +kernel)
theorem dX5_choose_3 : decode cX5_choose 3 = .ok (.getfield 74, 3) := dk_180 (by decide +kernel)
theorem dX5_choose_6 : decode cX5_choose 6 = .ok (.getfield 131, 3) := dk_180 (by decide +kernel)
theorem dX5_choose_9 : decode cX5_choose 9 = .ok (.iconst 1, 1) := dk_4 (by decide +kernel)
theorem dX5_choose_10 : decode cX5_choose 10 = .ok (.isub, 1) := dk_100 (by decide +kernel)
theorem dX5_choose_11 : decode cX5_choose 11 = .ok (.istore_n 3, 1) := dk_62 (by decide +kernel)
theorem dX5_choose_12 : decode cX5_choose 12 = .ok (.iload_n 3, 1) := dk_29 (by decide +kernel)
theorem dX5_choose_13 : decode cX5_choose 13 = .ok (.ifCond .lt 39, 3) := dk_155 (by decide +kernel)
theorem dX5_choose_16 : decode cX5_choose 16 = .ok (.iconst 1, 1) := dk_4 (by decide +kernel)
theorem dX5_choose_17 : decode cX5_choose 17 = .ok (.aload_n 0, 1) := dk_42 (by decide +kernel)
theorem dX5_choose_18 : decode cX5_choose 18 = .ok (.getfield 74, 3) := dk_180 (by decide +kernel)
theorem dX5_choose_21 : decode cX5_choose 21 = .ok (.getfield 134, 3) := dk_180 (by decide +kernel)
theorem dX5_choose_24 : decode cX5_choose 24 = .ok (.iload_n 3, 1) := dk_29 (by decide +kernel)
theorem dX5_choose_25 : decode cX5_choose 25 = .ok (.iaload, 1) := dk_46 (by decide +kernel)
theorem dX5_choose_26 : decode cX5_choose 26 = .ok (.invokestatic 137, 3) := dk_184 (by decide +kernel)
theorem dX5_choose_29 : decode cX5_choose 29 = .ok (.istore 4, 2) := dk_54 (by decide +kernel)
theorem dX5_choose_31 : decode cX5_choose 31 = .ok (.aload_n 0, 1) := dk_42 (by decide +kernel)
theorem dX5_choose_32 : decode cX5_choose 32 = .ok (.getfield 41, 3) := dk_180 (by decide +kernel)
theorem dX5_choose_35 : decode cX5_choose 35 = .ok (.iload_n 3, 1) := dk_29 (by decide +kernel)
theorem dX5_choose_36 : decode cX5_choose 36 = .ok (.iload_n 2, 1) := dk_28 (by decide +kernel)
theorem dX5_choose_37 : decode cX5_choose 37 = .ok (.iload 4, 2) := dk_21 (by decide +kernel)
theorem dX5_choose_39 : decode cX5_choose 39 = .ok (.irem, 1) := dk_112 (by decide +kernel)
theorem dX5_choose_40 : decode cX5_choose 40 = .ok (.iastore, 1) := dk_79 (by decide +kernel)
theorem dX5_choose_41 : decode cX5_choose 41 = .ok (.iload_n 2, 1) := dk_28 (by decide +kernel)
theorem dX5_choose_42 : decode cX5_choose 42 = .ok (.iload 4, 2) := dk_21 (by decide +kernel)
theorem dX5_choose_44 : decode cX5_choose 44 = .ok (.idiv, 1) := dk_108 (by decide +kernel)
theorem dX5_choose_45 : decode cX5_choose 45 = .ok (.istore_n 2, 1) := dk_61 (by decide +kernel)
theorem dX5_choose_46 : decode cX5_choose 46 = .ok (.iinc 3 (-1), 3) := dk_132 (by decide +kernel)
theorem dX5_choose_49 : decode cX5_choose 49 = .ok (.goto (-37), 3) := dk_167 (by decide +kernel)
theorem dX5_choose_52 : decode cX5_choose 52 = .ok (.aload_n 0, 1) := dk_42 (by decide +kernel)
theorem dX5_choose_53 : decode cX5_choose 53 = .ok (.getfield 74, 3) := dk_180 (by decide +kernel)
theorem dX5_choose_56 : decode cX5_choose 56 = .ok (.getfield 112, 3) := dk_180 (by decide +kernel)
theorem dX5_choose_59 : decode cX5_choose 59 = .ok (.iconst 1, 1) := dk_4 (by decide +kernel)
theorem dX5_choose_60 : decode cX5_choose 60 = .ok (.isub, 1) := dk_100 (by decide +kernel)
theorem dX5_choose_61 : decode cX5_choose 61 = .ok (.istore_n 3, 1) := dk_62 (by decide +kernel)
theorem dX5_choose_62 : decode cX5_choose 62 = .ok (.iload_n 3, 1) := dk_29 (by decide +kernel)
theorem dX5_choose_63 : decode cX5_choose 63 = .ok (.ifCond .lt 78, 3) := dk_155 (by decide +kernel)
theorem dX5_choose_66 : decode cX5_choose 66 = .ok (.aload_n 0, 1) := dk_42 (by decide +kernel)
theorem dX5_choose_67 : decode cX5_choose 67 = .ok (.getfield 74, 3) := dk_180 (by decide +kernel)
theorem dX5_choose_70 : decode cX5_choose 70 = .ok (.getfield 143, 3) := dk_180 (by decide +kernel)
theorem dX5_choose_73 : decode cX5_choose 73 = .ok (.iload_n 3, 1) := dk_29 (by decide +kernel)
theorem dX5_choose_74 : decode cX5_choose 74 = .ok (.baload, 1) := dk_51 (by decide +kernel)
theorem dX5_choose_75 : decode cX5_choose 75 = .ok (.ifCond .eq 45, 3) := dk_153 (by decide +kernel)
theorem dX5_choose_78 : decode cX5_choose 78 = .ok (.iconst 1, 1) := dk_4 (by decide +kernel)
theorem dX5_choose_79 : decode cX5_choose 79 = .ok (.aload_n 0, 1) := dk_42 (by decide +kernel)
theorem dX5_choose_80 : decode cX5_choose 80 = .ok (.getfield 74, 3) := dk_180 (by decide +kernel)
theorem dX5_choose_83 : decode cX5_choose 83 = .ok (.iload_n 3, 1) := dk_29 (by decide +kernel)
theorem dX5_choose_84 : decode cX5_choose 84 = .ok (.invokevirtual 146, 3) := dk_182 (by decide +kernel)
theorem dX5_choose_87 : decode cX5_choose 87 = .ok (.invokestatic 137, 3) := dk_184 (by decide +kernel)
theorem dX5_choose_90 : decode cX5_choose 90 = .ok (.istore 4, 2) := dk_54 (by decide +kernel)
theorem dX5_choose_92 : decode cX5_choose 92 = .ok (.aload_n 0, 1) := dk_42 (by decide +kernel)
theorem dX5_choose_93 : decode cX5_choose 93 = .ok (.getfield 35, 3) := dk_180 (by decide +kernel)
theorem dX5_choose_96 : decode cX5_choose 96 = .ok (.iload_n 3, 1) := dk_29 (by decide +kernel)
theorem dX5_choose_97 : decode cX5_choose 97 = .ok (.aload_n 0, 1) := dk_42 (by decide +kernel)
theorem dX5_choose_98 : decode cX5_choose 98 = .ok (.getfield 74, 3) := dk_180 (by decide +kernel)
theorem dX5_choose_101 : decode cX5_choose 101 = .ok (.getfield 150, 3) := dk_180 (by decide +kernel)
theorem dX5_choose_104 : decode cX5_choose 104 = .ok (.iload_n 3, 1) := dk_29 (by decide +kernel)
theorem dX5_choose_105 : decode cX5_choose 105 = .ok (.iaload, 1) := dk_46 (by decide +kernel)
theorem dX5_choose_106 : decode cX5_choose 106 = .ok (.iload_n 2, 1) := dk_28 (by decide +kernel)
theorem dX5_choose_107 : decode cX5_choose 107 = .ok (.iload 4, 2) := dk_21 (by decide +kernel)
theorem dX5_choose_109 : decode cX5_choose 109 = .ok (.irem, 1) := dk_112 (by decide +kernel)
theorem dX5_choose_110 : decode cX5_choose 110 = .ok (.iadd, 1) := dk_96 (by decide +kernel)
theorem dX5_choose_111 : decode cX5_choose 111 = .ok (.iastore, 1) := dk_79 (by decide +kernel)
theorem dX5_choose_112 : decode cX5_choose 112 = .ok (.iload_n 2, 1) := dk_28 (by decide +kernel)
theorem dX5_choose_113 : decode cX5_choose 113 = .ok (.iload 4, 2) := dk_21 (by decide +kernel)
theorem dX5_choose_115 : decode cX5_choose 115 = .ok (.idiv, 1) := dk_108 (by decide +kernel)
theorem dX5_choose_116 : decode cX5_choose 116 = .ok (.istore_n 2, 1) := dk_61 (by decide +kernel)
theorem dX5_choose_117 : decode cX5_choose 117 = .ok (.goto 18, 3) := dk_167 (by decide +kernel)
theorem dX5_choose_120 : decode cX5_choose 120 = .ok (.aload_n 0, 1) := dk_42 (by decide +kernel)
theorem dX5_choose_121 : decode cX5_choose 121 = .ok (.getfield 35, 3) := dk_180 (by decide +kernel)
theorem dX5_choose_124 : decode cX5_choose 124 = .ok (.iload_n 3, 1) := dk_29 (by decide +kernel)
theorem dX5_choose_125 : decode cX5_choose 125 = .ok (.aload_n 0, 1) := dk_42 (by decide +kernel)
theorem dX5_choose_126 : decode cX5_choose 126 = .ok (.getfield 74, 3) := dk_180 (by decide +kernel)
theorem dX5_choose_129 : decode cX5_choose 129 = .ok (.getfield 150, 3) := dk_180 (by decide +kernel)
theorem dX5_choose_132 : decode cX5_choose 132 = .ok (.iload_n 3, 1) := dk_29 (by decide +kernel)
theorem dX5_choose_133 : decode cX5_choose 133 = .ok (.iaload, 1) := dk_46 (by decide +kernel)
theorem dX5_choose_134 : decode cX5_choose 134 = .ok (.iastore, 1) := dk_79 (by decide +kernel)
theorem dX5_choose_135 : decode cX5_choose 135 = .ok (.iinc 3 (-1), 3) := dk_132 (by decide +kernel)
theorem dX5_choose_138 : decode cX5_choose 138 = .ok (.goto (-76), 3) := dk_167 (by decide +kernel)
theorem dX5_choose_141 : decode cX5_choose 141 = .ok (.aload_n 0, 1) := dk_42 (by decide +kernel)
theorem dX5_choose_142 : decode cX5_choose 142 = .ok (.invokevirtual 153, 3) := dk_182 (by decide +kernel)
theorem dX5_choose_145 : decode cX5_choose 145 = .ok (.ireturn, 1) := dk_172 (by decide +kernel)
def wsMX5_choose : List Cond := .code yX5_choose cX5_choose 5 (some .boolean) :: ([.fieldLink RX5 74 "OptimaWorks$Solver" "model" "LOptimaWorks$Model;", .fieldLink RX5 131 "OptimaWorks$Model" "rows" "I", .fieldLink RX5 134 "OptimaWorks$Model" "ways" "[I", .methodLink RX5 137 Lib.Math.max.name, .static Lib.Math.max.name, .initialized "java/lang/Math", .code Lib.Math.max.name Lib.Math.max.code 2 (some .int), .fieldLink RX5 41 "OptimaWorks$Solver" "chosen" "[I", .fieldLink RX5 112 "OptimaWorks$Model" "variables" "I", .fieldLink RX5 143 "OptimaWorks$Model" "whole" "[Z", .fieldLink RX5 35 "OptimaWorks$Solver" "start" "[I", .fieldLink RX5 150 "OptimaWorks$Model" "from" "[I"] ++ wsX10 ++ wsX50 ++ (wsV RX5 146 RX1 yX1_range wsMX1_range) ++ (wsV RX5 153 RX5 yX5_allDiffer wsMX5_allDiffer))
theorem iwsMX5_choose_in1 : ∀ w ∈ wsX10, w ∈ wsMX5_choose := fun _ h => List.mem_cons_of_mem _ (List.mem_append_left _ (List.mem_append_left _ (List.mem_append_left _ (List.mem_append_right _ h))))
theorem iwsMX5_choose_in5 : ∀ w ∈ wsX50, w ∈ wsMX5_choose := fun _ h => List.mem_cons_of_mem _ (List.mem_append_left _ (List.mem_append_left _ (List.mem_append_right _ h)))
theorem gwsMX5_choose_0 : GoodIn wsMX5_choose (wsV RX5 146 RX1 yX1_range wsMX1_range) := goodIn_sub (fun _ h => List.mem_cons_of_mem _ (List.mem_append_left _ (List.mem_append_right _ h))) (gdV (by decide +kernel) gdwsMX1_range)
theorem gwsMX5_choose_1 : GoodIn wsMX5_choose (wsV RX5 153 RX5 yX5_allDiffer wsMX5_allDiffer) := goodIn_sub (fun _ h => List.mem_cons_of_mem _ (List.mem_append_right _ h)) (gdV (by decide +kernel) gdwsMX5_allDiffer)
theorem gdwsMX5_choose : wsMX5_choose.all goodWord = true := gdC rfl (gdA (gdA (gdA (gdA (by decide +kernel : ([.fieldLink RX5 74 "OptimaWorks$Solver" "model" "LOptimaWorks$Model;", .fieldLink RX5 131 "OptimaWorks$Model" "rows" "I", .fieldLink RX5 134 "OptimaWorks$Model" "ways" "[I", .methodLink RX5 137 Lib.Math.max.name, .static Lib.Math.max.name, .initialized "java/lang/Math", .code Lib.Math.max.name Lib.Math.max.code 2 (some .int), .fieldLink RX5 41 "OptimaWorks$Solver" "chosen" "[I", .fieldLink RX5 112 "OptimaWorks$Model" "variables" "I", .fieldLink RX5 143 "OptimaWorks$Model" "whole" "[Z", .fieldLink RX5 35 "OptimaWorks$Solver" "start" "[I", .fieldLink RX5 150 "OptimaWorks$Model" "from" "[I"] : List Cond).all goodWord = true) gdwsX10) gdwsX50) (gdV (by decide +kernel) gdwsMX1_range)) (gdV (by decide +kernel) gdwsMX5_allDiffer))
set_option maxHeartbeats 4000000 in
set_option maxRecDepth 100000 in
/-- a case -/
theorem m_X5_choose (l : Launch) (dC : Nat → ClassId) (dI : Nat → Nat → Nat) (hO : Nat → Nat) (aO : Nat → Nat) (kO : Nat → ClassId) (hM : Nat → Nat) (hQ : Nat → Nat) (hw : Nat → Nat) (iO_answered : Int32) (iO_searched : Int32) (iO_searchedRelaxed : Int32) (iO_counted : Int32) (fO_countedCase : Nat → Int32) (gO_goalNumber : Nat → Int64) (gO_goalScale : Nat → Int64) (fO_start : Nat → Int32) (fO_column : Nat → Int32) (fO_chosen : Nat → Int32) (aM : Nat → Nat) (kM : Nat → ClassId) (iM_stands : Int32) (iM_variables : Int32) (iM_rows : Int32) (iM_goals : Int32) (iM_differents : Int32) (iM_cases : Int32) (fM_from : Nat → Int32) (fM_to : Nat → Int32) (fM_whole : Nat → Int32) (fM_ways : Nat → Int32) (iM_plainRows : Int32) (fM_plainRow : Nat → Int32) (fM_kept : Nat → Int32) (fM_goalOver : Nat → Int32) (fM_goalUnder : Nat → Int32) (fM_goalMax : Nat → Int32) (fM_different : Nat → Int32) (aQ : Nat → Nat) (kQ : Nat → ClassId) (fQ_inside : Nat → Int32) (fQ_outside : Nat → Int32) (fQ_shut : Nat → Int32) (iQ_rows : Int32) (iQ_allRows : Int32) (iQ_columns : Int32) (nW : Nat) (lw : Nat → Nat) (kw : ClassId) (wl : Nat → Int32) (wb : Nat → Int32) (wG : Nat → Nat → Int64) (p1 : Int32) (b_iO_answered : 0 ≤ iO_answered.toInt ∧ iO_answered.toInt ≤ 1) (b_iO_searched : 0 ≤ iO_searched.toInt ∧ iO_searched.toInt ≤ 1) (b_iO_searchedRelaxed : 0 ≤ iO_searchedRelaxed.toInt ∧ iO_searchedRelaxed.toInt ≤ 1) (b_iO_counted : (-1) ≤ iO_counted.toInt ∧ iO_counted.toInt ≤ 64) (b_fO_countedCase : ∀ q : Nat, 0 ≤ (fO_countedCase q).toInt ∧ (fO_countedCase q).toInt ≤ 200000) (b_fO_column : ∀ q : Nat, (-1) ≤ (fO_column q).toInt ∧ (fO_column q).toInt ≤ 8) (b_fO_chosen : ∀ q : Nat, 0 ≤ (fO_chosen q).toInt ∧ (fO_chosen q).toInt ≤ 2) (b_iM_stands : 0 ≤ iM_stands.toInt ∧ iM_stands.toInt ≤ 1) (b_iM_variables : 0 ≤ iM_variables.toInt ∧ iM_variables.toInt ≤ 8) (b_iM_rows : 0 ≤ iM_rows.toInt ∧ iM_rows.toInt ≤ 12) (b_iM_goals : 0 ≤ iM_goals.toInt ∧ iM_goals.toInt ≤ 3) (b_iM_differents : 0 ≤ iM_differents.toInt ∧ iM_differents.toInt ≤ 8) (b_iM_cases : 0 ≤ iM_cases.toInt ∧ iM_cases.toInt ≤ 200000) (b_fM_ways : ∀ q : Nat, 0 ≤ (fM_ways q).toInt ∧ (fM_ways q).toInt ≤ 3) (b_iM_plainRows : 0 ≤ iM_plainRows.toInt ∧ iM_plainRows.toInt ≤ 12) (b_fM_plainRow : ∀ q : Nat, 0 ≤ (fM_plainRow q).toInt ∧ (fM_plainRow q).toInt ≤ 11) (b_pr : iM_plainRows.toInt ≤ iM_rows.toInt) (b_iQ_rows : 0 ≤ iQ_rows.toInt ∧ iQ_rows.toInt ≤ 40) (b_iQ_allRows : 0 ≤ iQ_allRows.toInt ∧ iQ_allRows.toInt ≤ 40) (b_iQ_columns : 0 ≤ iQ_columns.toInt ∧ iQ_columns.toInt ≤ 40) (b_tb : TbO iQ_rows iQ_allRows iQ_columns) (b_wl : ∀ q : Nat, 0 ≤ (wl q).toInt ∧ (wl q).toInt ≤ 14) (b_wb : ∀ q : Nat, 0 ≤ (wb q).toInt ∧ (wb q).toInt ≤ 1) (b_p1 : 0 ≤ p1.toInt ∧ p1.toInt ≤ 200000) (hnW : 432 ≤ nW) (sz : Nat) : Met l yX5_choose wsMX5_choose ({ frames := 2, cells := 0, slots := 0, locals := 44 }) (va_Pc [.ref (hO 0), .int p1] (fun U => U.heap.size = sz ∧ va_P (dC, dI) vwCl (WO hO aO kO hM hQ hw iO_answered iO_searched iO_searchedRelaxed iO_counted fO_countedCase gO_goalNumber gO_goalScale fO_start fO_column fO_chosen ++ (WM hM aM kM iM_stands iM_variables iM_rows iM_goals iM_differents iM_cases fM_from fM_to fM_whole fM_ways iM_plainRows fM_plainRow fM_kept fM_goalOver fM_goalUnder fM_goalMax fM_different ++ (WQ hQ aQ kQ hw fQ_inside fQ_outside fQ_shut iQ_rows iQ_allRows iQ_columns ++ (WW nW hw lw kw wl wb wG)))) U.heap ∧ va_K (dC, dI) vwCl (tO kO ++ (tM kM ++ (tQ kQ ++ (tW kw)))) U ∧ va_D (fun _ => True) (WO hO aO kO hM hQ hw iO_answered iO_searched iO_searchedRelaxed iO_counted fO_countedCase gO_goalNumber gO_goalScale fO_start fO_column fO_chosen ++ (WM hM aM kM iM_stands iM_variables iM_rows iM_goals iM_differents iM_cases fM_from fM_to fM_whole fM_ways iM_plainRows fM_plainRow fM_kept fM_goalOver fM_goalUnder fM_goalMax fM_different ++ (WQ hQ aQ kQ hw fQ_inside fQ_outside fQ_shut iQ_rows iQ_allRows iQ_columns ++ (WW nW hw lw kw wl wb wG)))))) (va_Qi (fun (r : Int32) (u : (Nat → Int32) × (Nat → Int32)) => (∀ q : Nat, 0 ≤ ((u.2) q).toInt ∧ ((u.2) q).toInt ≤ 2) ∧ (0 ≤ r.toInt ∧ r.toInt ≤ 1)) (fun (u : (Nat → Int32) × (Nat → Int32)) t => va_P (dC, dI) vwCl (WO hO aO kO hM hQ hw iO_answered iO_searched iO_searchedRelaxed iO_counted fO_countedCase gO_goalNumber gO_goalScale (u.1) fO_column (u.2) ++ (WM hM aM kM iM_stands iM_variables iM_rows iM_goals iM_differents iM_cases fM_from fM_to fM_whole fM_ways iM_plainRows fM_plainRow fM_kept fM_goalOver fM_goalUnder fM_goalMax fM_different ++ (WQ hQ aQ kQ hw fQ_inside fQ_outside fQ_shut iQ_rows iQ_allRows iQ_columns ++ (WW nW hw lw kw wl wb wG)))) t.heap ∧ va_D (va_A (WO hO aO kO hM hQ hw iO_answered iO_searched iO_searchedRelaxed iO_counted fO_countedCase gO_goalNumber gO_goalScale fO_start fO_column fO_chosen ++ (WM hM aM kM iM_stands iM_variables iM_rows iM_goals iM_differents iM_cases fM_from fM_to fM_whole fM_ways iM_plainRows fM_plainRow fM_kept fM_goalOver fM_goalUnder fM_goalMax fM_different ++ (WQ hQ aQ kQ hw fQ_inside fQ_outside fQ_shut iQ_rows iQ_allRows iQ_columns ++ (WW nW hw lw kw wl wb wG)))) sz) (WO hO aO kO hM hQ hw iO_answered iO_searched iO_searchedRelaxed iO_counted fO_countedCase gO_goalNumber gO_goalScale (u.1) fO_column (u.2) ++ (WM hM aM kM iM_stands iM_variables iM_rows iM_goals iM_differents iM_cases fM_from fM_to fM_whole fM_ways iM_plainRows fM_plainRow fM_kept fM_goalOver fM_goalUnder fM_goalMax fM_different ++ (WQ hQ aQ kQ hw fQ_inside fQ_outside fQ_shut iQ_rows iQ_allRows iQ_columns ++ (WW nW hw lw kw wl wb wG))))) (va_A (WO hO aO kO hM hQ hw iO_answered iO_searched iO_searchedRelaxed iO_counted fO_countedCase gO_goalNumber gO_goalScale fO_start fO_column fO_chosen ++ (WM hM aM kM iM_stands iM_variables iM_rows iM_goals iM_differents iM_cases fM_from fM_to fM_whole fM_ways iM_plainRows fM_plainRow fM_kept fM_goalOver fM_goalUnder fM_goalMax fM_different ++ (WQ hQ aQ kQ hw fQ_inside fQ_outside fQ_shut iQ_rows iQ_allRows iQ_columns ++ (WW nW hw lw kw wl wb wG)))) sz)) 0 0 (va_A (WO hO aO kO hM hQ hw iO_answered iO_searched iO_searchedRelaxed iO_counted fO_countedCase gO_goalNumber gO_goalScale fO_start fO_column fO_chosen ++ (WM hM aM kM iM_stands iM_variables iM_rows iM_goals iM_differents iM_cases fM_from fM_to fM_whole fM_ways iM_plainRows fM_plainRow fM_kept fM_goalOver fM_goalUnder fM_goalMax fM_different ++ (WQ hQ aQ kQ hw fQ_inside fQ_outside fQ_shut iQ_rows iQ_allRows iQ_columns ++ (WW nW hw lw kw wl wb wG)))) sz) := by
  refine Met.ofW (cc := cX5_choose) (maxL := 5) (ret := (some .boolean)) (by decide) rfl ?_
  intro p e s m args below meth c s₁ B hml hv
  obtain ⟨rfl, hsz, hP, hK, hD0⟩ := hv
  have hx := B.exec
  have hb := B.bytes
  have hr := B.returns
  have hts := atoms_spec (ws := wsMX5_choose) B.pre
  have hown : s.vm.findClass RX5 = some m.cls := findClass_of_methodNamed B.named
  have hlocks := B.notSynchronized
  subst hsz
  have hD := hD0.self (sz := s.heap.size)
  generalize hAe : va_A (WO hO aO kO hM hQ hw iO_answered iO_searched iO_searchedRelaxed iO_counted fO_countedCase gO_goalNumber gO_goalScale fO_start fO_column fO_chosen ++ (WM hM aM kM iM_stands iM_variables iM_rows iM_goals iM_differents iM_cases fM_from fM_to fM_whole fM_ways iM_plainRows fM_plainRow fM_kept fM_goalOver fM_goalUnder fM_goalMax fM_different ++ (WQ hQ aQ kQ hw fQ_inside fQ_outside fQ_shut iQ_rows iQ_allRows iQ_columns ++ (WW nW hw lw kw wl wb wG)))) s.heap.size = A at hD ⊢
  have hA : ∀ q : Nat, s.heap.size ≤ q → A q := fun q h => by rw [← hAe]; exact Or.inr h
  have hS : va_S A s.heap s.heap [] := va_S.rf
  have hl := lv_entry ([.ref (hO 0), .int p1]) (n := 5) (Nat.le_of_ble_eq_true rfl)
  rw [lg_entry_eq]
  generalize (lg_sl ([.ref (hO 0), .int p1]) ++ List.replicate (5 - (lg_sl ([.ref (hO 0), .int p1])).length) Slot.unset).toArray = ls at hl ⊢
  have hl : lv_has ls 5 [(0, .ref (hO 0)), (1, .int p1)] := hl
  refine lv_iload_n hx hb dX5_choose_0 rfl (lv_at hl 1 rfl) ?_
  refine lv_istore_n hx hb dX5_choose_1 rfl hl (by decide) rfl (fun ls (hl : lv_has ls _ ([(2, .int p1), (0, .ref (hO 0)), (1, .int p1)])) => ?_)
  refine lv_aload_n hx hb dX5_choose_2 rfl (lv_at hl 1 rfl) ?_
  refine va_get (D := (dC, dI)) (ci := 5) (v := .ref (hM 0)) (C := RX5) (T := TX5) (N := 19) hx hb hts iwsMX5_choose_in5 hown hK hP 0 rfl rfl 0 (by decide) (hts (.fieldLink RX5 74 "OptimaWorks$Solver" "model" "LOptimaWorks$Model;") (by decide +kernel)) (fun _ h9 => h9) rfl dX5_choose_3 ?_
  refine va_get (D := (dC, dI)) (ci := 1) (v := .int iM_rows) (C := RX1) (T := TX1) (N := 17) hx hb hts iwsMX5_choose_in1 hown hK hP 11 rfl rfl 2 (by decide) (hts (.fieldLink RX5 131 "OptimaWorks$Model" "rows" "I") (by decide +kernel)) (fun _ h9 => h9) rfl dX5_choose_6 ?_
  refine lv_iconst (v := 1) hx hb dX5_choose_9 (by decide) ?_
  refine lv_isub hx hb dX5_choose_10 ?_
  refine lv_topi (fun y1 hy1 => ?_)
  obtain rfl : (iI (iM_rows.toInt - 1)) = y1 := (hy1.trans (iI_sub2 (iI_of _) (by decide : (1 : Int32) = iI 1))).symm
  refine lv_istore_n hx hb dX5_choose_11 rfl hl (by decide) rfl (fun ls (hl : lv_has ls _ ([(3, .int (iI (iM_rows.toInt - 1))), (2, .int p1), (0, .ref (hO 0)), (1, .int p1)])) => ?_)
  have hl : lv_has _ _ ([(3, .int (iI (iM_rows.toInt - 1))), (2, .int p1), (0, .ref (hO 0)), (1, .int p1)]) := lv_sub hl [0, 1, 2, 3] rfl
  refine (fun (loop : ∀ (n9 : Nat) (fO_chosen_x12 : Nat → Int32) (l3_x12 : Int32) (l2_x12 : Int32) (H : Heap) (locs : List Loc) (ls : Array Slot), (∀ q : Nat, 0 ≤ (fO_chosen_x12 q).toInt ∧ (fO_chosen_x12 q).toInt ≤ 2) → ((-1) ≤ l3_x12.toInt ∧ l3_x12.toInt ≤ 11) → (0 ≤ l2_x12.toInt ∧ l2_x12.toInt ≤ 200000) → (l3_x12.toInt - (-1) < ((n9 : Nat) : Int)) → va_P (dC, dI) vwCl (WO hO aO kO hM hQ hw iO_answered iO_searched iO_searchedRelaxed iO_counted fO_countedCase gO_goalNumber gO_goalScale fO_start fO_column fO_chosen_x12 ++ (WM hM aM kM iM_stands iM_variables iM_rows iM_goals iM_differents iM_cases fM_from fM_to fM_whole fM_ways iM_plainRows fM_plainRow fM_kept fM_goalOver fM_goalUnder fM_goalMax fM_different ++ (WQ hQ aQ kQ hw fQ_inside fQ_outside fQ_shut iQ_rows iQ_allRows iQ_columns ++ (WW nW hw lw kw wl wb wG)))) H → va_D A (WO hO aO kO hM hQ hw iO_answered iO_searched iO_searchedRelaxed iO_counted fO_countedCase gO_goalNumber gO_goalScale fO_start fO_column fO_chosen_x12 ++ (WM hM aM kM iM_stands iM_variables iM_rows iM_goals iM_differents iM_cases fM_from fM_to fM_whole fM_ways iM_plainRows fM_plainRow fM_kept fM_goalOver fM_goalUnder fM_goalMax fM_different ++ (WQ hQ aQ kQ hw fQ_inside fQ_outside fQ_shut iQ_rows iQ_allRows iQ_columns ++ (WW nW hw lw kw wl wb wG)))) → va_S A s.heap H locs → lv_has ls 5 [(3, .int l3_x12), (2, .int l2_x12), (0, .ref (hO 0)), (1, .int p1)] → W p l e _ s m _ below meth c H locs 0 0 _ (F0 m 12 ls [])) => loop (13) fO_chosen (iI (iM_rows.toInt - 1)) p1 _ _ _ b_fO_chosen (iI_rng (Int.le_trans (by decide) (Int.sub_le_sub (b_iM_rows.1) (Int.le_refl _))) (Int.le_trans (Int.sub_le_sub (b_iM_rows.2) (Int.le_refl _)) (by decide)) (by decide) (by decide)) (b_p1) ((by have e9 : ((iI (iM_rows.toInt - 1))).toInt = (iM_rows.toInt - 1) := (iI_t (Int.le_trans (by decide) (Int.sub_le_sub (b_iM_rows.1) (Int.le_refl _))) (Int.le_trans (Int.sub_le_sub (b_iM_rows.2) (Int.le_refl _)) (by decide))); omega)) hP hD hS hl) ?_
  intro n9
  induction n9 with
  | zero => intro fO_chosen_x12 l3_x12 l2_x12 H locs ls b_fO_chosen_x12 b_l3_x12 b_l2_x12 hf9; exact False.elim (by omega)
  | succ n9 ihx12 =>
    intro fO_chosen_x12 l3_x12 l2_x12 H locs ls b_fO_chosen_x12 b_l3_x12 b_l2_x12 hfx12 hP hD hS hl
    refine lv_iload_n hx hb dX5_choose_12 rfl (lv_at hl 0 rfl) ?_
    refine lv_if_lt (tgt := 52) hx hb dX5_choose_13 (by decide) (fun c_13 => ?_) (fun c_13 => ?_)
    · have t_13 : l3_x12.toInt < 0 := toI_lt c_13 rfl (by decide : (0 : Int32).toInt = 0)
      refine lv_aload_n hx hb dX5_choose_52 rfl (lv_at hl 2 rfl) ?_
      refine va_get (D := (dC, dI)) (ci := 5) (v := .ref (hM 0)) (C := RX5) (T := TX5) (N := 19) hx hb hts iwsMX5_choose_in5 hown hK hP 0 rfl rfl 0 (by decide) (hts (.fieldLink RX5 74 "OptimaWorks$Solver" "model" "LOptimaWorks$Model;") (by decide +kernel)) (fun _ h9 => h9) rfl dX5_choose_53 ?_
      refine va_get (D := (dC, dI)) (ci := 1) (v := .int iM_variables) (C := RX1) (T := TX1) (N := 17) hx hb hts iwsMX5_choose_in1 hown hK hP 11 rfl rfl 1 (by decide) (hts (.fieldLink RX5 112 "OptimaWorks$Model" "variables" "I") (by decide +kernel)) (fun _ h9 => h9) rfl dX5_choose_56 ?_
      refine lv_iconst (v := 1) hx hb dX5_choose_59 (by decide) ?_
      refine lv_isub hx hb dX5_choose_60 ?_
      refine lv_topi (fun y263 hy263 => ?_)
      obtain rfl : (iI (iM_variables.toInt - 1)) = y263 := (hy263.trans (iI_sub2 (iI_of _) (by decide : (1 : Int32) = iI 1))).symm
      refine lv_istore_n hx hb dX5_choose_61 rfl hl (by decide) rfl (fun ls (hl : lv_has ls _ ([(3, .int (iI (iM_variables.toInt - 1))), (2, .int l2_x12), (0, .ref (hO 0)), (1, .int p1)])) => ?_)
      have hl : lv_has _ _ ([(3, .int (iI (iM_variables.toInt - 1))), (2, .int l2_x12), (0, .ref (hO 0)), (1, .int p1)]) := lv_sub hl [0, 1, 2, 3] rfl
      refine (fun (loop : ∀ (n9 : Nat) (fO_start_x62 : Nat → Int32) (l3_x62 : Int32) (l2_x62 : Int32) (H : Heap) (locs : List Loc) (ls : Array Slot), ((-1) ≤ l3_x62.toInt ∧ l3_x62.toInt ≤ 7) → (0 ≤ l2_x62.toInt ∧ l2_x62.toInt ≤ 200000) → (l3_x62.toInt - (-1) < ((n9 : Nat) : Int)) → va_P (dC, dI) vwCl (WO hO aO kO hM hQ hw iO_answered iO_searched iO_searchedRelaxed iO_counted fO_countedCase gO_goalNumber gO_goalScale fO_start_x62 fO_column fO_chosen_x12 ++ (WM hM aM kM iM_stands iM_variables iM_rows iM_goals iM_differents iM_cases fM_from fM_to fM_whole fM_ways iM_plainRows fM_plainRow fM_kept fM_goalOver fM_goalUnder fM_goalMax fM_different ++ (WQ hQ aQ kQ hw fQ_inside fQ_outside fQ_shut iQ_rows iQ_allRows iQ_columns ++ (WW nW hw lw kw wl wb wG)))) H → va_D A (WO hO aO kO hM hQ hw iO_answered iO_searched iO_searchedRelaxed iO_counted fO_countedCase gO_goalNumber gO_goalScale fO_start_x62 fO_column fO_chosen_x12 ++ (WM hM aM kM iM_stands iM_variables iM_rows iM_goals iM_differents iM_cases fM_from fM_to fM_whole fM_ways iM_plainRows fM_plainRow fM_kept fM_goalOver fM_goalUnder fM_goalMax fM_different ++ (WQ hQ aQ kQ hw fQ_inside fQ_outside fQ_shut iQ_rows iQ_allRows iQ_columns ++ (WW nW hw lw kw wl wb wG)))) → va_S A s.heap H locs → lv_has ls 5 [(3, .int l3_x62), (2, .int l2_x62), (0, .ref (hO 0)), (1, .int p1)] → W p l e _ s m _ below meth c H locs 0 0 _ (F0 m 62 ls [])) => loop (9) fO_start (iI (iM_variables.toInt - 1)) l2_x12 _ _ _ (iI_rng (Int.le_trans (by decide) (Int.sub_le_sub (b_iM_variables.1) (Int.le_refl _))) (Int.le_trans (Int.sub_le_sub (b_iM_variables.2) (Int.le_refl _)) (by decide)) (by decide) (by decide)) (b_l2_x12) ((by have e9 : ((iI (iM_variables.toInt - 1))).toInt = (iM_variables.toInt - 1) := (iI_t (Int.le_trans (by decide) (Int.sub_le_sub (b_iM_variables.1) (Int.le_refl _))) (Int.le_trans (Int.sub_le_sub (b_iM_variables.2) (Int.le_refl _)) (by decide))); omega)) hP hD hS hl) ?_
      intro n9
      induction n9 with
      | zero => intro fO_start_x62 l3_x62 l2_x62 H locs ls b_l3_x62 b_l2_x62 hf9; exact False.elim (by omega)
      | succ n9 ihx62 =>
        intro fO_start_x62 l3_x62 l2_x62 H locs ls b_l3_x62 b_l2_x62 hfx62 hP hD hS hl
        refine lv_iload_n hx hb dX5_choose_62 rfl (lv_at hl 0 rfl) ?_
        refine lv_if_lt (tgt := 141) hx hb dX5_choose_63 (by decide) (fun c_63 => ?_) (fun c_63 => ?_)
        · have t_63 : l3_x62.toInt < 0 := toI_lt c_63 rfl (by decide : (0 : Int32).toInt = 0)
          refine lv_aload_n hx hb dX5_choose_141 rfl (lv_at hl 2 rfl) ?_
          have hFc := allFree hD hS hA
          refine va_calli (va_runV (As := []) (rest := []) ⟨hx, hb, hml, hown, hts⟩ (m_X5_allDiffer l dC dI hO aO kO hM hQ hw iO_answered iO_searched iO_searchedRelaxed iO_counted fO_countedCase gO_goalNumber gO_goalScale fO_start_x62 fO_column fO_chosen_x12 aM kM iM_stands iM_variables iM_rows iM_goals iM_differents iM_cases fM_from fM_to fM_whole fM_ways iM_plainRows fM_plainRow fM_kept fM_goalOver fM_goalUnder fM_goalMax fM_different aQ kQ fQ_inside fQ_outside fQ_shut iQ_rows iQ_allRows iQ_columns nW lw kw wl wb wG (b_iO_answered) (b_iO_searched) (b_iO_searchedRelaxed) (b_iO_counted) b_fO_countedCase b_fO_column b_fO_chosen_x12 (b_iM_stands) (b_iM_variables) (b_iM_rows) (b_iM_goals) (b_iM_differents) (b_iM_cases) b_fM_ways (b_iM_plainRows) b_fM_plainRow (by first | assumption | omega) (b_iQ_rows) (b_iQ_allRows) (b_iQ_columns) (by first | assumption | omega) b_wl b_wb (by omega) H.size) (cwV 0 hts gwsMX5_choose_1 rfl rfl rfl hd_yX5_allDiffer_RX5 (by decide +kernel)) (fz_pre (va_recv hK hP (ci := 5) (q0 := 0) rfl rfl) hP hK hD) rfl rfl hl.1 rfl (lv_room (Nat.le_of_ble_eq_true rfl)) dX5_choose_142 (by decide +kernel)) hS (fun q _ h => hFc q h) hFc (fun r361 u t9_ H locs ht hvm hw9 hB9 hz1 hk1 hS => ?_)
          have b_r361 := hw9
          try dsimp only at b_r361
          have hP : va_P (dC, dI) vwCl (WO hO aO kO hM hQ hw iO_answered iO_searched iO_searchedRelaxed iO_counted fO_countedCase gO_goalNumber gO_goalScale fO_start_x62 fO_column fO_chosen_x12 ++ (WM hM aM kM iM_stands iM_variables iM_rows iM_goals iM_differents iM_cases fM_from fM_to fM_whole fM_ways iM_plainRows fM_plainRow fM_kept fM_goalOver fM_goalUnder fM_goalMax fM_different ++ (WQ hQ aQ kQ hw fQ_inside fQ_outside fQ_shut iQ_rows iQ_allRows iQ_columns ++ (WW nW hw lw kw wl wb wG)))) H := fz_P ht hB9.1
          have hD : va_D A (WO hO aO kO hM hQ hw iO_answered iO_searched iO_searchedRelaxed iO_counted fO_countedCase gO_goalNumber gO_goalScale fO_start_x62 fO_column fO_chosen_x12 ++ (WM hM aM kM iM_stands iM_variables iM_rows iM_goals iM_differents iM_cases fM_from fM_to fM_whole fM_ways iM_plainRows fM_plainRow fM_kept fM_goalOver fM_goalUnder fM_goalMax fM_different ++ (WQ hQ aQ kQ hw fQ_inside fQ_outside fQ_shut iQ_rows iQ_allRows iQ_columns ++ (WW nW hw lw kw wl wb wG)))) := hB9.2.weaken (fun _ q _ h => hFc q.1 h)
          refine W.widen (k := 0) (n := 0) (by decide +kernel) (by decide +kernel) ?_
          exact W.zret (v := r361) hx hb hr (by rcases z01 (x := r361) (by first | exact b_r361 | assumption | exact ⟨by omega, by omega⟩) with h9 | h9 <;> rw [h9] <;> rfl) (fun t9_ ht hW => ⟨⟨r361, (fO_start_x62, fO_chosen_x12), rfl, ⟨b_fO_chosen_x12, (by first | exact b_r361 | assumption | exact ⟨by omega, by omega⟩)⟩, by rw [ht]; exact hP, hD⟩, hS.F ht⟩) hS.2.2 dX5_choose_145
        · have t_63 : ¬ l3_x62.toInt < 0 := toI_nlt c_63 rfl (by decide : (0 : Int32).toInt = 0)
          refine lv_aload_n hx hb dX5_choose_66 rfl (lv_at hl 2 rfl) ?_
          refine va_get (D := (dC, dI)) (ci := 5) (v := .ref (hM 0)) (C := RX5) (T := TX5) (N := 19) hx hb hts iwsMX5_choose_in5 hown hK hP 0 rfl rfl 0 (by decide) (hts (.fieldLink RX5 74 "OptimaWorks$Solver" "model" "LOptimaWorks$Model;") (by decide +kernel)) (fun _ h9 => h9) rfl dX5_choose_67 ?_
          refine va_get (D := (dC, dI)) (ci := 1) (v := .ref (aM 2)) (C := RX1) (T := TX1) (N := 17) hx hb hts iwsMX5_choose_in1 hown hK hP 11 rfl rfl 8 (by decide) (hts (.fieldLink RX5 143 "OptimaWorks$Model" "whole" "[Z") (by decide +kernel)) (fun _ h9 => h9) rfl dX5_choose_70 ?_
          refine lv_iload_n hx hb dX5_choose_73 rfl (lv_at hl 0 rfl) ?_
          refine va_zald (cA := kM 2) (n := 8) (f := fM_whole) hx hb hK hP 14 12 rfl rfl (vp_in_iff.mpr ⟨(by omega), (Int.lt_of_le_of_lt (b_l3_x62.2) (by decide))⟩) dX5_choose_74 ?_
          refine lv_topi (fun v362 hv362 => ?_)
          clear hv362
          refine W.cut (pc := 135) (fun H locs ls stk => ∃ (fO_start_j36 : Nat → Int32) (l2_j36 : Int32), (0 ≤ l2_j36.toInt ∧ l2_j36.toInt ≤ 200000) ∧  stk = [] ∧ va_P (dC, dI) vwCl (WO hO aO kO hM hQ hw iO_answered iO_searched iO_searchedRelaxed iO_counted fO_countedCase gO_goalNumber gO_goalScale fO_start_j36 fO_column fO_chosen_x12 ++ (WM hM aM kM iM_stands iM_variables iM_rows iM_goals iM_differents iM_cases fM_from fM_to fM_whole fM_ways iM_plainRows fM_plainRow fM_kept fM_goalOver fM_goalUnder fM_goalMax fM_different ++ (WQ hQ aQ kQ hw fQ_inside fQ_outside fQ_shut iQ_rows iQ_allRows iQ_columns ++ (WW nW hw lw kw wl wb wG)))) H ∧ va_D A (WO hO aO kO hM hQ hw iO_answered iO_searched iO_searchedRelaxed iO_counted fO_countedCase gO_goalNumber gO_goalScale fO_start_j36 fO_column fO_chosen_x12 ++ (WM hM aM kM iM_stands iM_variables iM_rows iM_goals iM_differents iM_cases fM_from fM_to fM_whole fM_ways iM_plainRows fM_plainRow fM_kept fM_goalOver fM_goalUnder fM_goalMax fM_different ++ (WQ hQ aQ kQ hw fQ_inside fQ_outside fQ_shut iQ_rows iQ_allRows iQ_columns ++ (WW nW hw lw kw wl wb wG)))) ∧ va_S A s.heap H locs ∧ lv_has ls 5 [(3, .int l3_x62), (2, .int l2_j36), (0, .ref (hO 0)), (1, .int p1)]) (fun join36 => ?_) ?_
          · refine lv_if_eq (tgt := 120) hx hb dX5_choose_75 (by decide) (fun c_75 => ?_) (fun c_75 => ?_)
            · have t_75 : v362.toInt = 0 := toI_eq c_75 rfl (by decide : (0 : Int32).toInt = 0)
              refine lv_aload_n hx hb dX5_choose_120 rfl (lv_at hl 2 rfl) ?_
              refine va_get (D := (dC, dI)) (ci := 5) (v := .ref (aO 3)) (C := RX5) (T := TX5) (N := 19) hx hb hts iwsMX5_choose_in5 hown hK hP 0 rfl rfl 9 (by decide) (hts (.fieldLink RX5 35 "OptimaWorks$Solver" "start" "[I") (by decide +kernel)) (fun _ h9 => h9) rfl dX5_choose_121 ?_
              refine lv_iload_n hx hb dX5_choose_124 rfl (lv_at hl 0 rfl) ?_
              refine lv_aload_n hx hb dX5_choose_125 rfl (lv_at hl 2 rfl) ?_
              refine va_get (D := (dC, dI)) (ci := 5) (v := .ref (hM 0)) (C := RX5) (T := TX5) (N := 19) hx hb hts iwsMX5_choose_in5 hown hK hP 0 rfl rfl 0 (by decide) (hts (.fieldLink RX5 74 "OptimaWorks$Solver" "model" "LOptimaWorks$Model;") (by decide +kernel)) (fun _ h9 => h9) rfl dX5_choose_126 ?_
              refine va_get (D := (dC, dI)) (ci := 1) (v := .ref (aM 0)) (C := RX1) (T := TX1) (N := 17) hx hb hts iwsMX5_choose_in1 hown hK hP 11 rfl rfl 6 (by decide) (hts (.fieldLink RX5 150 "OptimaWorks$Model" "from" "[I") (by decide +kernel)) (fun _ h9 => h9) rfl dX5_choose_129 ?_
              refine lv_iload_n hx hb dX5_choose_132 rfl (lv_at hl 0 rfl) ?_
              refine va_iald (cA := kM 0) (n := 8) (f := fM_from) hx hb hK hP 12 10 rfl rfl (vp_in_iff.mpr ⟨(by omega), (Int.lt_of_le_of_lt (b_l3_x62.2) (by decide))⟩) dX5_choose_133 ?_
              refine lv_topi (fun v372 hv372 => ?_)
              clear hv372
              refine va_iast (cA := kO 3) (n := 8) (f := fO_start_x62) hx hb hK hP hD hS 4 3 rfl rfl (vp_in_iff.mpr ⟨(by omega), (Int.lt_of_le_of_lt (b_l3_x62.2) (by decide))⟩) dX5_choose_134 (fun H locs hP hD hS => ?_)
              obtain ⟨u373, hu373⟩ : ∃ f9, f9 = upd fO_start_x62 (l3_x62).toNatClampNeg v372 := ⟨_, rfl⟩
              have hP : va_P (dC, dI) vwCl (WO hO aO kO hM hQ hw iO_answered iO_searched iO_searchedRelaxed iO_counted fO_countedCase gO_goalNumber gO_goalScale u373 fO_column fO_chosen_x12 ++ (WM hM aM kM iM_stands iM_variables iM_rows iM_goals iM_differents iM_cases fM_from fM_to fM_whole fM_ways iM_plainRows fM_plainRow fM_kept fM_goalOver fM_goalUnder fM_goalMax fM_different ++ (WQ hQ aQ kQ hw fQ_inside fQ_outside fQ_shut iQ_rows iQ_allRows iQ_columns ++ (WW nW hw lw kw wl wb wG)))) H := by rw [hu373]; exact hP
              have hD : va_D A (WO hO aO kO hM hQ hw iO_answered iO_searched iO_searchedRelaxed iO_counted fO_countedCase gO_goalNumber gO_goalScale u373 fO_column fO_chosen_x12 ++ (WM hM aM kM iM_stands iM_variables iM_rows iM_goals iM_differents iM_cases fM_from fM_to fM_whole fM_ways iM_plainRows fM_plainRow fM_kept fM_goalOver fM_goalUnder fM_goalMax fM_different ++ (WQ hQ aQ kQ hw fQ_inside fQ_outside fQ_shut iQ_rows iQ_allRows iQ_columns ++ (WW nW hw lw kw wl wb wG)))) := by rw [hu373]; exact hD
              clear hu373
              have hl : lv_has _ _ ([(3, .int l3_x62), (2, .int l2_x62), (0, .ref (hO 0)), (1, .int p1)]) := lv_sub hl [0, 1, 2, 3] rfl
              exact join36 _ _ _ _ ⟨u373, l2_x62, (b_l2_x62), rfl, hP, hD, hS, hl⟩
            · have t_75 : ¬ v362.toInt = 0 := toI_neq c_75 rfl (by decide : (0 : Int32).toInt = 0)
              refine lv_iconst (v := 1) hx hb dX5_choose_78 (by decide) ?_
              refine lv_aload_n hx hb dX5_choose_79 rfl (lv_at hl 2 rfl) ?_
              refine va_get (D := (dC, dI)) (ci := 5) (v := .ref (hM 0)) (C := RX5) (T := TX5) (N := 19) hx hb hts iwsMX5_choose_in5 hown hK hP 0 rfl rfl 0 (by decide) (hts (.fieldLink RX5 74 "OptimaWorks$Solver" "model" "LOptimaWorks$Model;") (by decide +kernel)) (fun _ h9 => h9) rfl dX5_choose_80 ?_
              refine lv_iload_n hx hb dX5_choose_83 rfl (lv_at hl 0 rfl) ?_
              have p9 : List.Perm (WO hO aO kO hM hQ hw iO_answered iO_searched iO_searchedRelaxed iO_counted fO_countedCase gO_goalNumber gO_goalScale fO_start_x62 fO_column fO_chosen_x12 ++ (WM hM aM kM iM_stands iM_variables iM_rows iM_goals iM_differents iM_cases fM_from fM_to fM_whole fM_ways iM_plainRows fM_plainRow fM_kept fM_goalOver fM_goalUnder fM_goalMax fM_different ++ (WQ hQ aQ kQ hw fQ_inside fQ_outside fQ_shut iQ_rows iQ_allRows iQ_columns ++ (WW nW hw lw kw wl wb wG)))) ((WM hM aM kM iM_stands iM_variables iM_rows iM_goals iM_differents iM_cases fM_from fM_to fM_whole fM_ways iM_plainRows fM_plainRow fM_kept fM_goalOver fM_goalUnder fM_goalMax fM_different) ++ (WO hO aO kO hM hQ hw iO_answered iO_searched iO_searchedRelaxed iO_counted fO_countedCase gO_goalNumber gO_goalScale fO_start_x62 fO_column fO_chosen_x12 ++ (WQ hQ aQ kQ hw fQ_inside fQ_outside fQ_shut iQ_rows iQ_allRows iQ_columns ++ (WW nW hw lw kw wl wb wG)))) := (List.perm_append_comm_assoc _ _ _)
              have hPc := hP.mem (fun q h => p9.mem_iff.mpr (List.mem_append_left _ h))
              have hDc := (hD.perm p9).left
              have hKc : va_K (dC, dI) vwCl (tM kM) _ := hK.sub [10, 11, 12, 13, 14, 15, 16, 17, 18, 19] rfl
              have hFc := freeG p9 hD hS hA
              refine va_calli (va_runV (As := [.int l3_x62]) (rest := [.int 1]) ⟨hx, hb, hml, hown, hts⟩ (m_X1_range l dC dI hM aM kM iM_stands iM_variables iM_rows iM_goals iM_differents iM_cases fM_from fM_to fM_whole fM_ways iM_plainRows fM_plainRow fM_kept fM_goalOver fM_goalUnder fM_goalMax fM_different l3_x62 (b_iM_stands) (b_iM_variables) (b_iM_rows) (b_iM_goals) (b_iM_differents) (b_iM_cases) b_fM_ways (b_iM_plainRows) b_fM_plainRow (by first | assumption | omega) (by first | exact b_l3_x62 | assumption | exact ⟨by omega, by omega⟩) H.size) (cwV 1 hts gwsMX5_choose_0 rfl rfl rfl hd_yX1_range_RX1 (by decide +kernel)) (fz_pre (va_recv hK hP (ci := 1) (q0 := 11) rfl rfl) hPc hKc hDc) rfl rfl hl.1 rfl (lv_room (Nat.le_of_ble_eq_true rfl)) dX5_choose_84 (by decide +kernel)) hS (fun q _ h => hFc q h) hFc (fun r374 u t9_ H locs ht hvm hw9 hB9 hz1 hk1 hS => ?_)
              clear hw9
              have p8 : List.Perm (WO hO aO kO hM hQ hw iO_answered iO_searched iO_searchedRelaxed iO_counted fO_countedCase gO_goalNumber gO_goalScale fO_start_x62 fO_column fO_chosen_x12 ++ (WM hM aM kM iM_stands iM_variables iM_rows iM_goals iM_differents iM_cases fM_from fM_to fM_whole fM_ways iM_plainRows fM_plainRow fM_kept fM_goalOver fM_goalUnder fM_goalMax fM_different ++ (WQ hQ aQ kQ hw fQ_inside fQ_outside fQ_shut iQ_rows iQ_allRows iQ_columns ++ (WW nW hw lw kw wl wb wG)))) ((WM hM aM kM iM_stands iM_variables iM_rows iM_goals iM_differents iM_cases fM_from fM_to fM_whole fM_ways iM_plainRows fM_plainRow fM_kept fM_goalOver fM_goalUnder fM_goalMax fM_different) ++ (WO hO aO kO hM hQ hw iO_answered iO_searched iO_searchedRelaxed iO_counted fO_countedCase gO_goalNumber gO_goalScale fO_start_x62 fO_column fO_chosen_x12 ++ (WQ hQ aQ kQ hw fQ_inside fQ_outside fQ_shut iQ_rows iQ_allRows iQ_columns ++ (WW nW hw lw kw wl wb wG)))) := (List.perm_append_comm_assoc _ _ _)
              obtain ⟨hP, hD⟩ := frameG p9 p8 hP hD hk1 hFc (fz_P ht hB9.1) hB9.2
              have hP : va_P (dC, dI) vwCl (WO hO aO kO hM hQ hw iO_answered iO_searched iO_searchedRelaxed iO_counted fO_countedCase gO_goalNumber gO_goalScale fO_start_x62 fO_column fO_chosen_x12 ++ (WM hM aM kM iM_stands iM_variables iM_rows iM_goals iM_differents iM_cases fM_from fM_to fM_whole fM_ways iM_plainRows fM_plainRow fM_kept fM_goalOver fM_goalUnder fM_goalMax fM_different ++ (WQ hQ aQ kQ hw fQ_inside fQ_outside fQ_shut iQ_rows iQ_allRows iQ_columns ++ (WW nW hw lw kw wl wb wG)))) H := hP
              have hD : va_D A (WO hO aO kO hM hQ hw iO_answered iO_searched iO_searchedRelaxed iO_counted fO_countedCase gO_goalNumber gO_goalScale fO_start_x62 fO_column fO_chosen_x12 ++ (WM hM aM kM iM_stands iM_variables iM_rows iM_goals iM_differents iM_cases fM_from fM_to fM_whole fM_ways iM_plainRows fM_plainRow fM_kept fM_goalOver fM_goalUnder fM_goalMax fM_different ++ (WQ hQ aQ kQ hw fQ_inside fQ_outside fQ_shut iQ_rows iQ_allRows iQ_columns ++ (WW nW hw lw kw wl wb wG)))) := hD
              refine va_mmax hx hb (by rw [hml]; exact hl.1.symm) hown (hts (.methodLink RX5 137 Lib.Math.max.name) (by decide +kernel)) (hts (.static Lib.Math.max.name) (by decide +kernel)) (hts (.initialized "java/lang/Math") (by decide +kernel)) (hts (.code Lib.Math.max.name Lib.Math.max.code 2 (some .int)) (by decide +kernel)) (by decide +kernel) (Nat.le_of_ble_eq_true rfl) (by decide +kernel) (by decide +kernel) dX5_choose_87 ?_
              refine lv_topi (fun v375 hv375 => ?_)
              have b_v375 : (1 ≤ v375.toInt ∧ r374.toInt ≤ v375.toInt) ∧ (v375.toInt = 1 ∨ v375.toInt = r374.toInt) := by rw [hv375]; exact max_t (by decide : (1 : Int32).toInt = 1) rfl
              clear hv375
              refine lv_istore hx hb dX5_choose_90 hl (by decide) rfl (fun ls (hl : lv_has ls _ ([(4, .int v375), (3, .int l3_x62), (2, .int l2_x62), (0, .ref (hO 0)), (1, .int p1)])) => ?_)
              refine lv_aload_n hx hb dX5_choose_92 rfl (lv_at hl 3 rfl) ?_
              refine va_get (D := (dC, dI)) (ci := 5) (v := .ref (aO 3)) (C := RX5) (T := TX5) (N := 19) hx hb hts iwsMX5_choose_in5 hown hK hP 0 rfl rfl 9 (by decide) (hts (.fieldLink RX5 35 "OptimaWorks$Solver" "start" "[I") (by decide +kernel)) (fun _ h9 => h9) rfl dX5_choose_93 ?_
              refine lv_iload_n hx hb dX5_choose_96 rfl (lv_at hl 1 rfl) ?_
              refine lv_aload_n hx hb dX5_choose_97 rfl (lv_at hl 3 rfl) ?_
              refine va_get (D := (dC, dI)) (ci := 5) (v := .ref (hM 0)) (C := RX5) (T := TX5) (N := 19) hx hb hts iwsMX5_choose_in5 hown hK hP 0 rfl rfl 0 (by decide) (hts (.fieldLink RX5 74 "OptimaWorks$Solver" "model" "LOptimaWorks$Model;") (by decide +kernel)) (fun _ h9 => h9) rfl dX5_choose_98 ?_
              refine va_get (D := (dC, dI)) (ci := 1) (v := .ref (aM 0)) (C := RX1) (T := TX1) (N := 17) hx hb hts iwsMX5_choose_in1 hown hK hP 11 rfl rfl 6 (by decide) (hts (.fieldLink RX5 150 "OptimaWorks$Model" "from" "[I") (by decide +kernel)) (fun _ h9 => h9) rfl dX5_choose_101 ?_
              refine lv_iload_n hx hb dX5_choose_104 rfl (lv_at hl 1 rfl) ?_
              refine va_iald (cA := kM 0) (n := 8) (f := fM_from) hx hb hK hP 12 10 rfl rfl (vp_in_iff.mpr ⟨(by omega), (Int.lt_of_le_of_lt (b_l3_x62.2) (by decide))⟩) dX5_choose_105 ?_
              refine lv_topi (fun v376 hv376 => ?_)
              clear hv376
              refine lv_iload_n hx hb dX5_choose_106 rfl (lv_at hl 2 rfl) ?_
              refine lv_iload hx hb dX5_choose_107 (lv_at hl 0 rfl) ?_
              refine lv_irem hx hb dX5_choose_109 (nz_i (x := v375) rfl (by omega)) ?_
              refine lv_topi (fun v377 hv377 => ?_)
              have b_v377 : 0 ≤ v377.toInt ∧ v377.toInt < v375.toInt := by rw [hv377]; exact irem_r rfl rfl (by omega) (by omega)
              clear hv377
              refine lv_iadd hx hb dX5_choose_110 ?_
              refine lv_topi (fun y378 hy378 => ?_)
              obtain rfl : (iI (v376.toInt + v377.toInt)) = y378 := (hy378.trans (iI_add2 (iI_of _) (iI_of _))).symm
              refine va_iast (cA := kO 3) (n := 8) (f := fO_start_x62) hx hb hK hP hD hS 4 3 rfl rfl (vp_in_iff.mpr ⟨(by omega), (Int.lt_of_le_of_lt (b_l3_x62.2) (by decide))⟩) dX5_choose_111 (fun H locs hP hD hS => ?_)
              obtain ⟨u379, hu379⟩ : ∃ f9, f9 = upd fO_start_x62 (l3_x62).toNatClampNeg (iI (v376.toInt + v377.toInt)) := ⟨_, rfl⟩
              have hP : va_P (dC, dI) vwCl (WO hO aO kO hM hQ hw iO_answered iO_searched iO_searchedRelaxed iO_counted fO_countedCase gO_goalNumber gO_goalScale u379 fO_column fO_chosen_x12 ++ (WM hM aM kM iM_stands iM_variables iM_rows iM_goals iM_differents iM_cases fM_from fM_to fM_whole fM_ways iM_plainRows fM_plainRow fM_kept fM_goalOver fM_goalUnder fM_goalMax fM_different ++ (WQ hQ aQ kQ hw fQ_inside fQ_outside fQ_shut iQ_rows iQ_allRows iQ_columns ++ (WW nW hw lw kw wl wb wG)))) H := by rw [hu379]; exact hP
              have hD : va_D A (WO hO aO kO hM hQ hw iO_answered iO_searched iO_searchedRelaxed iO_counted fO_countedCase gO_goalNumber gO_goalScale u379 fO_column fO_chosen_x12 ++ (WM hM aM kM iM_stands iM_variables iM_rows iM_goals iM_differents iM_cases fM_from fM_to fM_whole fM_ways iM_plainRows fM_plainRow fM_kept fM_goalOver fM_goalUnder fM_goalMax fM_different ++ (WQ hQ aQ kQ hw fQ_inside fQ_outside fQ_shut iQ_rows iQ_allRows iQ_columns ++ (WW nW hw lw kw wl wb wG)))) := by rw [hu379]; exact hD
              clear hu379
              refine lv_iload_n hx hb dX5_choose_112 rfl (lv_at hl 2 rfl) ?_
              refine lv_iload hx hb dX5_choose_113 (lv_at hl 0 rfl) ?_
              refine lv_idiv hx hb dX5_choose_115 (nz_i (x := v375) rfl (by omega)) ?_
              refine lv_topi (fun v380 hv380 => ?_)
              have b_v380 : 0 ≤ v380.toInt ∧ v380.toInt ≤ l2_x62.toInt := by rw [hv380]; exact idiv_r rfl rfl (by omega) (by omega)
              clear hv380
              refine lv_istore_n hx hb dX5_choose_116 rfl hl (by decide) rfl (fun ls (hl : lv_has ls _ ([(2, .int v380), (4, .int v375), (3, .int l3_x62), (0, .ref (hO 0)), (1, .int p1)])) => ?_)
              refine lv_goto (tgt := 135) hx hb dX5_choose_117 (by decide) ?_
              have hl : lv_has _ _ ([(3, .int l3_x62), (2, .int v380), (0, .ref (hO 0)), (1, .int p1)]) := lv_sub hl [2, 0, 3, 4] rfl
              exact join36 _ _ _ _ ⟨u379, v380, (by first | exact b_v380 | assumption | exact ⟨by omega, by omega⟩), rfl, hP, hD, hS, hl⟩
          · rintro H locs ls stk ⟨fO_start_j36, l2_j36, b_l2_j36, rfl, hP, hD, hS, hl⟩
            refine lv_iinc (v := (iI (l3_x62.toInt + (-1)))) hx hb dX5_choose_135 hl (k := 0) rfl (iI_add2 (iI_of _) (by decide : ((-1) : Int32) = iI (-1))) (by decide) rfl (fun ls (hl : lv_has ls _ ([(3, .int (iI (l3_x62.toInt + (-1)))), (2, .int l2_j36), (0, .ref (hO 0)), (1, .int p1)])) => ?_)
            refine lv_goto (tgt := 62) hx hb dX5_choose_138 (by decide) ?_
            have hl : lv_has _ _ ([(3, .int (iI (l3_x62.toInt + (-1)))), (2, .int l2_j36), (0, .ref (hO 0)), (1, .int p1)]) := lv_sub hl [0, 1, 2, 3] rfl
            exact ihx62 fO_start_j36 (iI (l3_x62.toInt + (-1))) l2_j36 _ _ _ (iI_rng (by omega) (Int.le_trans (Int.add_le_add (b_l3_x62.2) (Int.le_refl _)) (by decide)) (by decide) (by decide)) (b_l2_j36) (by have e9 : ((iI (l3_x62.toInt + (-1)))).toInt = (l3_x62.toInt + (-1)) := (iI_t (Int.le_trans (by decide) (Int.add_le_add (b_l3_x62.1) (Int.le_refl _))) (Int.le_trans (Int.add_le_add (b_l3_x62.2) (Int.le_refl _)) (by decide))); omega) hP hD hS hl
    · have t_13 : ¬ l3_x12.toInt < 0 := toI_nlt c_13 rfl (by decide : (0 : Int32).toInt = 0)
      refine lv_iconst (v := 1) hx hb dX5_choose_16 (by decide) ?_
      refine lv_aload_n hx hb dX5_choose_17 rfl (lv_at hl 2 rfl) ?_
      refine va_get (D := (dC, dI)) (ci := 5) (v := .ref (hM 0)) (C := RX5) (T := TX5) (N := 19) hx hb hts iwsMX5_choose_in5 hown hK hP 0 rfl rfl 0 (by decide) (hts (.fieldLink RX5 74 "OptimaWorks$Solver" "model" "LOptimaWorks$Model;") (by decide +kernel)) (fun _ h9 => h9) rfl dX5_choose_18 ?_
      refine va_get (D := (dC, dI)) (ci := 1) (v := .ref (aM 3)) (C := RX1) (T := TX1) (N := 17) hx hb hts iwsMX5_choose_in1 hown hK hP 11 rfl rfl 9 (by decide) (hts (.fieldLink RX5 134 "OptimaWorks$Model" "ways" "[I") (by decide +kernel)) (fun _ h9 => h9) rfl dX5_choose_21 ?_
      refine lv_iload_n hx hb dX5_choose_24 rfl (lv_at hl 0 rfl) ?_
      refine va_iald (cA := kM 3) (n := 12) (f := fM_ways) hx hb hK hP 15 13 rfl rfl (vp_in_iff.mpr ⟨(by omega), (Int.lt_of_le_of_lt (b_l3_x12.2) (by decide))⟩) dX5_choose_25 ?_
      refine lv_topi (fun v381 hv381 => ?_)
      have b_v381 : 0 ≤ v381.toInt ∧ v381.toInt ≤ 3 := by rw [hv381]; exact b_fM_ways _
      clear hv381
      refine va_mmax hx hb (by rw [hml]; exact hl.1.symm) hown (hts (.methodLink RX5 137 Lib.Math.max.name) (by decide +kernel)) (hts (.static Lib.Math.max.name) (by decide +kernel)) (hts (.initialized "java/lang/Math") (by decide +kernel)) (hts (.code Lib.Math.max.name Lib.Math.max.code 2 (some .int)) (by decide +kernel)) (by decide +kernel) (Nat.le_of_ble_eq_true rfl) (by decide +kernel) (by decide +kernel) dX5_choose_26 ?_
      refine lv_topi (fun v382 hv382 => ?_)
      have b_v382 : (1 ≤ v382.toInt ∧ v381.toInt ≤ v382.toInt) ∧ (v382.toInt = 1 ∨ v382.toInt = v381.toInt) := by rw [hv382]; exact max_t (by decide : (1 : Int32).toInt = 1) rfl
      clear hv382
      refine lv_istore hx hb dX5_choose_29 hl (by decide) rfl (fun ls (hl : lv_has ls _ ([(4, .int v382), (3, .int l3_x12), (2, .int l2_x12), (0, .ref (hO 0)), (1, .int p1)])) => ?_)
      refine lv_aload_n hx hb dX5_choose_31 rfl (lv_at hl 3 rfl) ?_
      refine va_get (D := (dC, dI)) (ci := 5) (v := .ref (aO 5)) (C := RX5) (T := TX5) (N := 19) hx hb hts iwsMX5_choose_in5 hown hK hP 0 rfl rfl 11 (by decide) (hts (.fieldLink RX5 41 "OptimaWorks$Solver" "chosen" "[I") (by decide +kernel)) (fun _ h9 => h9) rfl dX5_choose_32 ?_
      refine lv_iload_n hx hb dX5_choose_35 rfl (lv_at hl 1 rfl) ?_
      refine lv_iload_n hx hb dX5_choose_36 rfl (lv_at hl 2 rfl) ?_
      refine lv_iload hx hb dX5_choose_37 (lv_at hl 0 rfl) ?_
      refine lv_irem hx hb dX5_choose_39 (nz_i (x := v382) rfl (by omega)) ?_
      refine lv_topi (fun v383 hv383 => ?_)
      have b_v383 : 0 ≤ v383.toInt ∧ v383.toInt < v382.toInt := by rw [hv383]; exact irem_r rfl rfl (by omega) (by omega)
      clear hv383
      refine va_iast (cA := kO 5) (n := 12) (f := fO_chosen_x12) hx hb hK hP hD hS 6 5 rfl rfl (vp_in_iff.mpr ⟨(by omega), (Int.lt_of_le_of_lt (b_l3_x12.2) (by decide))⟩) dX5_choose_40 (fun H locs hP hD hS => ?_)
      obtain ⟨u384, hu384⟩ : ∃ f9, f9 = upd fO_chosen_x12 (l3_x12).toNatClampNeg v383 := ⟨_, rfl⟩
      have hP : va_P (dC, dI) vwCl (WO hO aO kO hM hQ hw iO_answered iO_searched iO_searchedRelaxed iO_counted fO_countedCase gO_goalNumber gO_goalScale fO_start fO_column u384 ++ (WM hM aM kM iM_stands iM_variables iM_rows iM_goals iM_differents iM_cases fM_from fM_to fM_whole fM_ways iM_plainRows fM_plainRow fM_kept fM_goalOver fM_goalUnder fM_goalMax fM_different ++ (WQ hQ aQ kQ hw fQ_inside fQ_outside fQ_shut iQ_rows iQ_allRows iQ_columns ++ (WW nW hw lw kw wl wb wG)))) H := by rw [hu384]; exact hP
      have hD : va_D A (WO hO aO kO hM hQ hw iO_answered iO_searched iO_searchedRelaxed iO_counted fO_countedCase gO_goalNumber gO_goalScale fO_start fO_column u384 ++ (WM hM aM kM iM_stands iM_variables iM_rows iM_goals iM_differents iM_cases fM_from fM_to fM_whole fM_ways iM_plainRows fM_plainRow fM_kept fM_goalOver fM_goalUnder fM_goalMax fM_different ++ (WQ hQ aQ kQ hw fQ_inside fQ_outside fQ_shut iQ_rows iQ_allRows iQ_columns ++ (WW nW hw lw kw wl wb wG)))) := by rw [hu384]; exact hD
      have b_u384 : ∀ q : Nat, 0 ≤ (u384 q).toInt ∧ (u384 q).toInt ≤ 2 := by rw [hu384]; exact upd_r b_fO_chosen_x12 (by first | exact b_v383 | assumption | exact ⟨by omega, by omega⟩)
      clear hu384
      refine lv_iload_n hx hb dX5_choose_41 rfl (lv_at hl 2 rfl) ?_
      refine lv_iload hx hb dX5_choose_42 (lv_at hl 0 rfl) ?_
      refine lv_idiv hx hb dX5_choose_44 (nz_i (x := v382) rfl (by omega)) ?_
      refine lv_topi (fun v385 hv385 => ?_)
      have b_v385 : 0 ≤ v385.toInt ∧ v385.toInt ≤ l2_x12.toInt := by rw [hv385]; exact idiv_r rfl rfl (by omega) (by omega)
      clear hv385
      refine lv_istore_n hx hb dX5_choose_45 rfl hl (by decide) rfl (fun ls (hl : lv_has ls _ ([(2, .int v385), (4, .int v382), (3, .int l3_x12), (0, .ref (hO 0)), (1, .int p1)])) => ?_)
      refine lv_iinc (v := (iI (l3_x12.toInt + (-1)))) hx hb dX5_choose_46 hl (k := 2) rfl (iI_add2 (iI_of _) (by decide : ((-1) : Int32) = iI (-1))) (by decide) rfl (fun ls (hl : lv_has ls _ ([(3, .int (iI (l3_x12.toInt + (-1)))), (2, .int v385), (4, .int v382), (0, .ref (hO 0)), (1, .int p1)])) => ?_)
      refine lv_goto (tgt := 12) hx hb dX5_choose_49 (by decide) ?_
      have hl : lv_has _ _ ([(3, .int (iI (l3_x12.toInt + (-1)))), (2, .int v385), (0, .ref (hO 0)), (1, .int p1)]) := lv_sub hl [0, 1, 3, 4] rfl
      exact ihx12 u384 (iI (l3_x12.toInt + (-1))) v385 _ _ _ b_u384 (iI_rng (by omega) (Int.le_trans (Int.add_le_add (b_l3_x12.2) (Int.le_refl _)) (by decide)) (by decide) (by decide)) (by first | exact b_v385 | assumption | exact ⟨by omega, by omega⟩) (by have e9 : ((iI (l3_x12.toInt + (-1)))).toInt = (l3_x12.toInt + (-1)) := (iI_t (Int.le_trans (by decide) (Int.add_le_add (b_l3_x12.1) (Int.le_refl _))) (Int.le_trans (Int.add_le_add (b_l3_x12.2) (Int.le_refl _)) (by decide))); omega) hP hD hS hl
theorem dX5_addTimes_0 : decode cX5_addTimes 0 = .ok (.lload_n 3, 1) := dk_33 (by decide +kernel)
theorem dX5_addTimes_1 : decode cX5_addTimes 1 = .ok (.lconst 0, 1) := dk_9 (by decide +kernel)
theorem dX5_addTimes_2 : decode cX5_addTimes 2 = .ok (.lcmp, 1) := dk_148 (by decide +kernel)
theorem dX5_addTimes_3 : decode cX5_addTimes 3 = .ok (.ifCond .ne 4, 3) := dk_154 (by decide +kernel)
theorem dX5_addTimes_6 : decode cX5_addTimes 6 = .ok (.return_, 1) := dk_177 (by decide +kernel)
theorem dX5_addTimes_7 : decode cX5_addTimes 7 = .ok (.aload_n 0, 1) := dk_42 (by decide +kernel)
theorem dX5_addTimes_8 : decode cX5_addTimes 8 = .ok (.getfield 71, 3) := dk_180 (by decide +kernel)
theorem dX5_addTimes_11 : decode cX5_addTimes 11 = .ok (.iconst 2, 1) := dk_5 (by decide +kernel)
theorem dX5_addTimes_12 : decode cX5_addTimes 12 = .ok (.aaload, 1) := dk_50 (by decide +kernel)
theorem dX5_addTimes_13 : decode cX5_addTimes 13 = .ok (.lload_n 3, 1) := dk_33 (by decide +kernel)
theorem dX5_addTimes_14 : decode cX5_addTimes 14 = .ok (.invokevirtual 184, 3) := dk_182 (by decide +kernel)
theorem dX5_addTimes_17 : decode cX5_addTimes 17 = .ok (.aload_n 0, 1) := dk_42 (by decide +kernel)
theorem dX5_addTimes_18 : decode cX5_addTimes 18 = .ok (.getfield 71, 3) := dk_180 (by decide +kernel)
theorem dX5_addTimes_21 : decode cX5_addTimes 21 = .ok (.iconst 3, 1) := dk_6 (by decide +kernel)
theorem dX5_addTimes_22 : decode cX5_addTimes 22 = .ok (.aaload, 1) := dk_50 (by decide +kernel)
theorem dX5_addTimes_23 : decode cX5_addTimes 23 = .ok (.aload_n 2, 1) := dk_44 (by decide +kernel)
theorem dX5_addTimes_24 : decode cX5_addTimes 24 = .ok (.aload_n 0, 1) := dk_42 (by decide +kernel)
theorem dX5_addTimes_25 : decode cX5_addTimes 25 = .ok (.getfield 71, 3) := dk_180 (by decide +kernel)
theorem dX5_addTimes_28 : decode cX5_addTimes 28 = .ok (.iconst 2, 1) := dk_5 (by decide +kernel)
theorem dX5_addTimes_29 : decode cX5_addTimes 29 = .ok (.aaload, 1) := dk_50 (by decide +kernel)
theorem dX5_addTimes_30 : decode cX5_addTimes 30 = .ok (.invokevirtual 249, 3) := dk_182 (by decide +kernel)
theorem dX5_addTimes_33 : decode cX5_addTimes 33 = .ok (.aload_n 1, 1) := dk_43 (by decide +kernel)
theorem dX5_addTimes_34 : decode cX5_addTimes 34 = .ok (.aload_n 0, 1) := dk_42 (by decide +kernel)
theorem dX5_addTimes_35 : decode cX5_addTimes 35 = .ok (.getfield 71, 3) := dk_180 (by decide +kernel)
theorem dX5_addTimes_38 : decode cX5_addTimes 38 = .ok (.iconst 3, 1) := dk_6 (by decide +kernel)
theorem dX5_addTimes_39 : decode cX5_addTimes 39 = .ok (.aaload, 1) := dk_50 (by decide +kernel)
theorem dX5_addTimes_40 : decode cX5_addTimes 40 = .ok (.invokevirtual 259, 3) := dk_182 (by decide +kernel)
theorem dX5_addTimes_43 : decode cX5_addTimes 43 = .ok (.return_, 1) := dk_177 (by decide +kernel)
def wsMX5_addTimes : List Cond := .code yX5_addTimes cX5_addTimes 5 none :: ([.fieldLink RX5 71 "OptimaWorks$Solver" "spare" "[LOptimaWorks$Whole;"] ++ wsX50 ++ (wsV RX5 184 RX8 yX8_setLong wsMX8_setLong) ++ (wsV RX5 249 RX8 yX8_setProduct wsMX8_setProduct) ++ (wsV RX5 259 RX8 yX8_add wsMX8_add))
theorem iwsMX5_addTimes_in5 : ∀ w ∈ wsX50, w ∈ wsMX5_addTimes := fun _ h => List.mem_cons_of_mem _ (List.mem_append_left _ (List.mem_append_left _ (List.mem_append_left _ (List.mem_append_right _ h))))
theorem gwsMX5_addTimes_0 : GoodIn wsMX5_addTimes (wsV RX5 184 RX8 yX8_setLong wsMX8_setLong) := goodIn_sub (fun _ h => List.mem_cons_of_mem _ (List.mem_append_left _ (List.mem_append_left _ (List.mem_append_right _ h)))) (gdV (by decide +kernel) gdwsMX8_setLong)
theorem gwsMX5_addTimes_1 : GoodIn wsMX5_addTimes (wsV RX5 249 RX8 yX8_setProduct wsMX8_setProduct) := goodIn_sub (fun _ h => List.mem_cons_of_mem _ (List.mem_append_left _ (List.mem_append_right _ h))) (gdV (by decide +kernel) gdwsMX8_setProduct)
theorem gwsMX5_addTimes_2 : GoodIn wsMX5_addTimes (wsV RX5 259 RX8 yX8_add wsMX8_add) := goodIn_sub (fun _ h => List.mem_cons_of_mem _ (List.mem_append_right _ h)) (gdV (by decide +kernel) gdwsMX8_add)
theorem gdwsMX5_addTimes : wsMX5_addTimes.all goodWord = true := gdC rfl (gdA (gdA (gdA (gdA (by decide +kernel : ([.fieldLink RX5 71 "OptimaWorks$Solver" "spare" "[LOptimaWorks$Whole;"] : List Cond).all goodWord = true) gdwsX50) (gdV (by decide +kernel) gdwsMX8_setLong)) (gdV (by decide +kernel) gdwsMX8_setProduct)) (gdV (by decide +kernel) gdwsMX8_add))
set_option maxHeartbeats 4000000 in
set_option maxRecDepth 100000 in
/-- times added -/
theorem m_X5_addTimes (l : Launch) (dC : Nat → ClassId) (dI : Nat → Nat → Nat) (hO : Nat → Nat) (aO : Nat → Nat) (kO : Nat → ClassId) (hM : Nat → Nat) (hQ : Nat → Nat) (hw : Nat → Nat) (iO_answered : Int32) (iO_searched : Int32) (iO_searchedRelaxed : Int32) (iO_counted : Int32) (fO_countedCase : Nat → Int32) (gO_goalNumber : Nat → Int64) (gO_goalScale : Nat → Int64) (fO_start : Nat → Int32) (fO_column : Nat → Int32) (fO_chosen : Nat → Int32) (aM : Nat → Nat) (kM : Nat → ClassId) (iM_stands : Int32) (iM_variables : Int32) (iM_rows : Int32) (iM_goals : Int32) (iM_differents : Int32) (iM_cases : Int32) (fM_from : Nat → Int32) (fM_to : Nat → Int32) (fM_whole : Nat → Int32) (fM_ways : Nat → Int32) (iM_plainRows : Int32) (fM_plainRow : Nat → Int32) (fM_kept : Nat → Int32) (fM_goalOver : Nat → Int32) (fM_goalUnder : Nat → Int32) (fM_goalMax : Nat → Int32) (fM_different : Nat → Int32) (aQ : Nat → Nat) (kQ : Nat → ClassId) (fQ_inside : Nat → Int32) (fQ_outside : Nat → Int32) (fQ_shut : Nat → Int32) (iQ_rows : Int32) (iQ_allRows : Int32) (iQ_columns : Int32) (nW : Nat) (lw : Nat → Nat) (kw : ClassId) (wl : Nat → Int32) (wb : Nat → Int32) (wG : Nat → Nat → Int64) (ka : Nat) (kb : Nat) (p3 : Int64) (b_iO_answered : 0 ≤ iO_answered.toInt ∧ iO_answered.toInt ≤ 1) (b_iO_searched : 0 ≤ iO_searched.toInt ∧ iO_searched.toInt ≤ 1) (b_iO_searchedRelaxed : 0 ≤ iO_searchedRelaxed.toInt ∧ iO_searchedRelaxed.toInt ≤ 1) (b_iO_counted : (-1) ≤ iO_counted.toInt ∧ iO_counted.toInt ≤ 64) (b_fO_countedCase : ∀ q : Nat, 0 ≤ (fO_countedCase q).toInt ∧ (fO_countedCase q).toInt ≤ 200000) (b_fO_column : ∀ q : Nat, (-1) ≤ (fO_column q).toInt ∧ (fO_column q).toInt ≤ 8) (b_fO_chosen : ∀ q : Nat, 0 ≤ (fO_chosen q).toInt ∧ (fO_chosen q).toInt ≤ 2) (b_iM_stands : 0 ≤ iM_stands.toInt ∧ iM_stands.toInt ≤ 1) (b_iM_variables : 0 ≤ iM_variables.toInt ∧ iM_variables.toInt ≤ 8) (b_iM_rows : 0 ≤ iM_rows.toInt ∧ iM_rows.toInt ≤ 12) (b_iM_goals : 0 ≤ iM_goals.toInt ∧ iM_goals.toInt ≤ 3) (b_iM_differents : 0 ≤ iM_differents.toInt ∧ iM_differents.toInt ≤ 8) (b_iM_cases : 0 ≤ iM_cases.toInt ∧ iM_cases.toInt ≤ 200000) (b_fM_ways : ∀ q : Nat, 0 ≤ (fM_ways q).toInt ∧ (fM_ways q).toInt ≤ 3) (b_iM_plainRows : 0 ≤ iM_plainRows.toInt ∧ iM_plainRows.toInt ≤ 12) (b_fM_plainRow : ∀ q : Nat, 0 ≤ (fM_plainRow q).toInt ∧ (fM_plainRow q).toInt ≤ 11) (b_pr : iM_plainRows.toInt ≤ iM_rows.toInt) (b_iQ_rows : 0 ≤ iQ_rows.toInt ∧ iQ_rows.toInt ≤ 40) (b_iQ_allRows : 0 ≤ iQ_allRows.toInt ∧ iQ_allRows.toInt ≤ 40) (b_iQ_columns : 0 ≤ iQ_columns.toInt ∧ iQ_columns.toInt ≤ 40) (b_tb : TbO iQ_rows iQ_allRows iQ_columns) (b_wl : ∀ q : Nat, 0 ≤ (wl q).toInt ∧ (wl q).toInt ≤ 14) (b_wb : ∀ q : Nat, 0 ≤ (wb q).toInt ∧ (wb q).toInt ≤ 1) (hnW : 432 ≤ nW) (hka : ka < nW) (hkb : kb < nW) (sz : Nat) : Met l yX5_addTimes wsMX5_addTimes ({ frames := 3, cells := 0, slots := 0, locals := 61 }) (va_Pc [.ref (hO 0), .ref (hw ka), .ref (hw kb), .long p3] (fun U => U.heap.size = sz ∧ va_P (dC, dI) vwCl (WO hO aO kO hM hQ hw iO_answered iO_searched iO_searchedRelaxed iO_counted fO_countedCase gO_goalNumber gO_goalScale fO_start fO_column fO_chosen ++ (WM hM aM kM iM_stands iM_variables iM_rows iM_goals iM_differents iM_cases fM_from fM_to fM_whole fM_ways iM_plainRows fM_plainRow fM_kept fM_goalOver fM_goalUnder fM_goalMax fM_different ++ (WQ hQ aQ kQ hw fQ_inside fQ_outside fQ_shut iQ_rows iQ_allRows iQ_columns ++ (WW nW hw lw kw wl wb wG)))) U.heap ∧ va_K (dC, dI) vwCl (tO kO ++ (tM kM ++ (tQ kQ ++ (tW kw)))) U ∧ va_D (fun _ => True) (WO hO aO kO hM hQ hw iO_answered iO_searched iO_searchedRelaxed iO_counted fO_countedCase gO_goalNumber gO_goalScale fO_start fO_column fO_chosen ++ (WM hM aM kM iM_stands iM_variables iM_rows iM_goals iM_differents iM_cases fM_from fM_to fM_whole fM_ways iM_plainRows fM_plainRow fM_kept fM_goalOver fM_goalUnder fM_goalMax fM_different ++ (WQ hQ aQ kQ hw fQ_inside fQ_outside fQ_shut iQ_rows iQ_allRows iQ_columns ++ (WW nW hw lw kw wl wb wG)))))) (va_Qv (fun (u : (Nat → Int32) × (Nat → Int32) × (Nat → Nat → Int64)) => (∀ q : Nat, 0 ≤ ((u.1) q).toInt ∧ ((u.1) q).toInt ≤ 14) ∧ (∀ q : Nat, 0 ≤ ((u.2.1) q).toInt ∧ ((u.2.1) q).toInt ≤ 1)) (fun (u : (Nat → Int32) × (Nat → Int32) × (Nat → Nat → Int64)) t => va_P (dC, dI) vwCl (WO hO aO kO hM hQ hw iO_answered iO_searched iO_searchedRelaxed iO_counted fO_countedCase gO_goalNumber gO_goalScale fO_start fO_column fO_chosen ++ (WM hM aM kM iM_stands iM_variables iM_rows iM_goals iM_differents iM_cases fM_from fM_to fM_whole fM_ways iM_plainRows fM_plainRow fM_kept fM_goalOver fM_goalUnder fM_goalMax fM_different ++ (WQ hQ aQ kQ hw fQ_inside fQ_outside fQ_shut iQ_rows iQ_allRows iQ_columns ++ (WW nW hw lw kw (u.1) (u.2.1) (u.2.2))))) t.heap ∧ va_D (va_A (WO hO aO kO hM hQ hw iO_answered iO_searched iO_searchedRelaxed iO_counted fO_countedCase gO_goalNumber gO_goalScale fO_start fO_column fO_chosen ++ (WM hM aM kM iM_stands iM_variables iM_rows iM_goals iM_differents iM_cases fM_from fM_to fM_whole fM_ways iM_plainRows fM_plainRow fM_kept fM_goalOver fM_goalUnder fM_goalMax fM_different ++ (WQ hQ aQ kQ hw fQ_inside fQ_outside fQ_shut iQ_rows iQ_allRows iQ_columns ++ (WW nW hw lw kw wl wb wG)))) sz) (WO hO aO kO hM hQ hw iO_answered iO_searched iO_searchedRelaxed iO_counted fO_countedCase gO_goalNumber gO_goalScale fO_start fO_column fO_chosen ++ (WM hM aM kM iM_stands iM_variables iM_rows iM_goals iM_differents iM_cases fM_from fM_to fM_whole fM_ways iM_plainRows fM_plainRow fM_kept fM_goalOver fM_goalUnder fM_goalMax fM_different ++ (WQ hQ aQ kQ hw fQ_inside fQ_outside fQ_shut iQ_rows iQ_allRows iQ_columns ++ (WW nW hw lw kw (u.1) (u.2.1) (u.2.2)))))) (va_A (WO hO aO kO hM hQ hw iO_answered iO_searched iO_searchedRelaxed iO_counted fO_countedCase gO_goalNumber gO_goalScale fO_start fO_column fO_chosen ++ (WM hM aM kM iM_stands iM_variables iM_rows iM_goals iM_differents iM_cases fM_from fM_to fM_whole fM_ways iM_plainRows fM_plainRow fM_kept fM_goalOver fM_goalUnder fM_goalMax fM_different ++ (WQ hQ aQ kQ hw fQ_inside fQ_outside fQ_shut iQ_rows iQ_allRows iQ_columns ++ (WW nW hw lw kw wl wb wG)))) sz)) 0 0 (va_A (WO hO aO kO hM hQ hw iO_answered iO_searched iO_searchedRelaxed iO_counted fO_countedCase gO_goalNumber gO_goalScale fO_start fO_column fO_chosen ++ (WM hM aM kM iM_stands iM_variables iM_rows iM_goals iM_differents iM_cases fM_from fM_to fM_whole fM_ways iM_plainRows fM_plainRow fM_kept fM_goalOver fM_goalUnder fM_goalMax fM_different ++ (WQ hQ aQ kQ hw fQ_inside fQ_outside fQ_shut iQ_rows iQ_allRows iQ_columns ++ (WW nW hw lw kw wl wb wG)))) sz) := by
  refine Met.ofW (cc := cX5_addTimes) (maxL := 5) (ret := none) (by decide) rfl ?_
  intro p e s m args below meth c s₁ B hml hv
  obtain ⟨rfl, hsz, hP, hK, hD0⟩ := hv
  have hx := B.exec
  have hb := B.bytes
  have hr := B.returns
  have hts := atoms_spec (ws := wsMX5_addTimes) B.pre
  have hown : s.vm.findClass RX5 = some m.cls := findClass_of_methodNamed B.named
  have hlocks := B.notSynchronized
  subst hsz
  have hD := hD0.self (sz := s.heap.size)
  generalize hAe : va_A (WO hO aO kO hM hQ hw iO_answered iO_searched iO_searchedRelaxed iO_counted fO_countedCase gO_goalNumber gO_goalScale fO_start fO_column fO_chosen ++ (WM hM aM kM iM_stands iM_variables iM_rows iM_goals iM_differents iM_cases fM_from fM_to fM_whole fM_ways iM_plainRows fM_plainRow fM_kept fM_goalOver fM_goalUnder fM_goalMax fM_different ++ (WQ hQ aQ kQ hw fQ_inside fQ_outside fQ_shut iQ_rows iQ_allRows iQ_columns ++ (WW nW hw lw kw wl wb wG)))) s.heap.size = A at hD ⊢
  have hA : ∀ q : Nat, s.heap.size ≤ q → A q := fun q h => by rw [← hAe]; exact Or.inr h
  have hS : va_S A s.heap s.heap [] := va_S.rf
  have hl := lv_entry ([.ref (hO 0), .ref (hw ka), .ref (hw kb), .long p3]) (n := 5) (Nat.le_of_ble_eq_true rfl)
  rw [lg_entry_eq]
  generalize (lg_sl ([.ref (hO 0), .ref (hw ka), .ref (hw kb), .long p3]) ++ List.replicate (5 - (lg_sl ([.ref (hO 0), .ref (hw ka), .ref (hw kb), .long p3])).length) Slot.unset).toArray = ls at hl ⊢
  have hl : lv_has ls 5 [(0, .ref (hO 0)), (1, .ref (hw ka)), (2, .ref (hw kb)), (3, .long p3)] := hl
  refine lv_lload_n hx hb dX5_addTimes_0 rfl (lv_at hl 3 rfl) ?_
  refine lv_lconst (v := 0) hx hb dX5_addTimes_1 (by decide) ?_
  refine W.lcmp hx hb dX5_addTimes_2 ?_
  refine lv_if_ne (tgt := 7) hx hb dX5_addTimes_3 (by decide) (fun c_3 => ?_) (fun c_3 => ?_)
  · have t_3 : p3.toInt ≠ 0 := toL_ne c_3 rfl (by decide : (0 : Int64).toInt = 0)
    refine lv_aload_n hx hb dX5_addTimes_7 rfl (lv_at hl 0 rfl) ?_
    refine va_get (D := (dC, dI)) (ci := 5) (v := .ref (aO 9)) (C := RX5) (T := TX5) (N := 19) hx hb hts iwsMX5_addTimes_in5 hown hK hP 0 rfl rfl 18 (by decide) (hts (.fieldLink RX5 71 "OptimaWorks$Solver" "spare" "[LOptimaWorks$Whole;") (by decide +kernel)) (fun _ h9 => h9) rfl dX5_addTimes_8 ?_
    refine lv_iconst (v := 2) hx hb dX5_addTimes_11 (by decide) ?_
    refine va_aldq (cA := kO 9) (n := 4) (f := fun q => some (hw (428 + q))) hx hb hK hP 10 9 rfl rfl (show ¬ ((2 : Int32) < 0 ∨ 4 ≤ (2 : Int32).toNatClampNeg) by decide) dX5_addTimes_12 ?_
    obtain ⟨k1, hk1, b_k1⟩ : ∃ k9 : Nat, k9 = 428 + (2 : Int32).toNatClampNeg ∧ (428 ≤ k9 ∧ k9 < 432 ∧ (k9 : Int) = 428 + 2) := ⟨_, rfl, ald_k (x := (2 : Int32)) (o := 428) (n := 4) (by decide : (2 : Int32).toInt = 2) (by omega) (by omega)⟩
    refine W.eq (g2 := F0 m 13 ls [.ref (hw k1)]) (by rw [hk1]; rfl) ?_
    clear hk1
    refine lv_lload_n hx hb dX5_addTimes_13 rfl (lv_at hl 3 rfl) ?_
    have p9 : List.Perm (WO hO aO kO hM hQ hw iO_answered iO_searched iO_searchedRelaxed iO_counted fO_countedCase gO_goalNumber gO_goalScale fO_start fO_column fO_chosen ++ (WM hM aM kM iM_stands iM_variables iM_rows iM_goals iM_differents iM_cases fM_from fM_to fM_whole fM_ways iM_plainRows fM_plainRow fM_kept fM_goalOver fM_goalUnder fM_goalMax fM_different ++ (WQ hQ aQ kQ hw fQ_inside fQ_outside fQ_shut iQ_rows iQ_allRows iQ_columns ++ (WW nW hw lw kw wl wb wG)))) ((WW nW hw lw kw wl wb wG) ++ (WO hO aO kO hM hQ hw iO_answered iO_searched iO_searchedRelaxed iO_counted fO_countedCase gO_goalNumber gO_goalScale fO_start fO_column fO_chosen ++ (WM hM aM kM iM_stands iM_variables iM_rows iM_goals iM_differents iM_cases fM_from fM_to fM_whole fM_ways iM_plainRows fM_plainRow fM_kept fM_goalOver fM_goalUnder fM_goalMax fM_different ++ (WQ hQ aQ kQ hw fQ_inside fQ_outside fQ_shut iQ_rows iQ_allRows iQ_columns)))) := ((List.Perm.append_left _ ((List.Perm.append_left _ (List.perm_append_comm)).trans (List.perm_append_comm_assoc _ _ _))).trans (List.perm_append_comm_assoc _ _ _))
    have hPc := hP.mem (fun q h => p9.mem_iff.mpr (List.mem_append_left _ h))
    have hDc := (hD.perm p9).left
    have hKc : va_K (dC, dI) vwCl (tW kw) _ := hK.sub [24] rfl
    have hFc := freeG p9 hD hS hA
    refine va_callv (va_runV (As := [.long p3]) (rest := []) ⟨hx, hb, hml, hown, hts⟩ (m_X8_setLong l dC dI nW hw lw kw wl wb wG k1 p3 b_wl b_wb (by first | assumption | omega | (rw [iI_t (by omega) (by omega)]; omega) | decide) s.heap.size) (cwV 1 hts gwsMX5_addTimes_0 rfl rfl rfl hd_yX8_setLong_RX8 (by decide +kernel)) (fz_pre (va_recv hK hP (ci := 8) (q0 := 11 + (11 + (5 + (k1)))) rfl (apR rfl (apR rfl (apR rfl (WW_o (by omega)))))) hPc hKc hDc) rfl rfl hl.1 rfl (lv_room (Nat.le_of_ble_eq_true rfl)) dX5_addTimes_14 (by decide +kernel)) hS (fun q _ h => hFc q h) hFc (fun u t9_ H locs ht hvm hw9 hB9 hz1 hk1 hS => ?_)
    obtain ⟨wl_2, wb_2, wG_2⟩ := u
    try dsimp only at hw9 hB9
    obtain ⟨b_wl_2, b_wb_2⟩ := hw9
    have p8 : List.Perm (WO hO aO kO hM hQ hw iO_answered iO_searched iO_searchedRelaxed iO_counted fO_countedCase gO_goalNumber gO_goalScale fO_start fO_column fO_chosen ++ (WM hM aM kM iM_stands iM_variables iM_rows iM_goals iM_differents iM_cases fM_from fM_to fM_whole fM_ways iM_plainRows fM_plainRow fM_kept fM_goalOver fM_goalUnder fM_goalMax fM_different ++ (WQ hQ aQ kQ hw fQ_inside fQ_outside fQ_shut iQ_rows iQ_allRows iQ_columns ++ (WW nW hw lw kw wl_2 wb_2 wG_2)))) ((WW nW hw lw kw wl_2 wb_2 wG_2) ++ (WO hO aO kO hM hQ hw iO_answered iO_searched iO_searchedRelaxed iO_counted fO_countedCase gO_goalNumber gO_goalScale fO_start fO_column fO_chosen ++ (WM hM aM kM iM_stands iM_variables iM_rows iM_goals iM_differents iM_cases fM_from fM_to fM_whole fM_ways iM_plainRows fM_plainRow fM_kept fM_goalOver fM_goalUnder fM_goalMax fM_different ++ (WQ hQ aQ kQ hw fQ_inside fQ_outside fQ_shut iQ_rows iQ_allRows iQ_columns)))) := ((List.Perm.append_left _ ((List.Perm.append_left _ (List.perm_append_comm)).trans (List.perm_append_comm_assoc _ _ _))).trans (List.perm_append_comm_assoc _ _ _))
    obtain ⟨hP, hD⟩ := frameG p9 p8 hP hD hk1 hFc (fz_P ht hB9.1) hB9.2
    have hP : va_P (dC, dI) vwCl (WO hO aO kO hM hQ hw iO_answered iO_searched iO_searchedRelaxed iO_counted fO_countedCase gO_goalNumber gO_goalScale fO_start fO_column fO_chosen ++ (WM hM aM kM iM_stands iM_variables iM_rows iM_goals iM_differents iM_cases fM_from fM_to fM_whole fM_ways iM_plainRows fM_plainRow fM_kept fM_goalOver fM_goalUnder fM_goalMax fM_different ++ (WQ hQ aQ kQ hw fQ_inside fQ_outside fQ_shut iQ_rows iQ_allRows iQ_columns ++ (WW nW hw lw kw wl_2 wb_2 wG_2)))) H := hP
    have hD : va_D A (WO hO aO kO hM hQ hw iO_answered iO_searched iO_searchedRelaxed iO_counted fO_countedCase gO_goalNumber gO_goalScale fO_start fO_column fO_chosen ++ (WM hM aM kM iM_stands iM_variables iM_rows iM_goals iM_differents iM_cases fM_from fM_to fM_whole fM_ways iM_plainRows fM_plainRow fM_kept fM_goalOver fM_goalUnder fM_goalMax fM_different ++ (WQ hQ aQ kQ hw fQ_inside fQ_outside fQ_shut iQ_rows iQ_allRows iQ_columns ++ (WW nW hw lw kw wl_2 wb_2 wG_2)))) := hD
    refine lv_aload_n hx hb dX5_addTimes_17 rfl (lv_at hl 0 rfl) ?_
    refine va_get (D := (dC, dI)) (ci := 5) (v := .ref (aO 9)) (C := RX5) (T := TX5) (N := 19) hx hb hts iwsMX5_addTimes_in5 hown hK hP 0 rfl rfl 18 (by decide) (hts (.fieldLink RX5 71 "OptimaWorks$Solver" "spare" "[LOptimaWorks$Whole;") (by decide +kernel)) (fun _ h9 => h9) rfl dX5_addTimes_18 ?_
    refine lv_iconst (v := 3) hx hb dX5_addTimes_21 (by decide) ?_
    refine va_aldq (cA := kO 9) (n := 4) (f := fun q => some (hw (428 + q))) hx hb hK hP 10 9 rfl rfl (show ¬ ((3 : Int32) < 0 ∨ 4 ≤ (3 : Int32).toNatClampNeg) by decide) dX5_addTimes_22 ?_
    obtain ⟨k3, hk3, b_k3⟩ : ∃ k9 : Nat, k9 = 428 + (3 : Int32).toNatClampNeg ∧ (428 ≤ k9 ∧ k9 < 432 ∧ (k9 : Int) = 428 + 3) := ⟨_, rfl, ald_k (x := (3 : Int32)) (o := 428) (n := 4) (by decide : (3 : Int32).toInt = 3) (by omega) (by omega)⟩
    refine W.eq (g2 := F0 m 23 ls [.ref (hw k3)]) (by rw [hk3]; rfl) ?_
    clear hk3
    refine lv_aload_n hx hb dX5_addTimes_23 rfl (lv_at hl 2 rfl) ?_
    refine lv_aload_n hx hb dX5_addTimes_24 rfl (lv_at hl 0 rfl) ?_
    refine va_get (D := (dC, dI)) (ci := 5) (v := .ref (aO 9)) (C := RX5) (T := TX5) (N := 19) hx hb hts iwsMX5_addTimes_in5 hown hK hP 0 rfl rfl 18 (by decide) (hts (.fieldLink RX5 71 "OptimaWorks$Solver" "spare" "[LOptimaWorks$Whole;") (by decide +kernel)) (fun _ h9 => h9) rfl dX5_addTimes_25 ?_
    refine lv_iconst (v := 2) hx hb dX5_addTimes_28 (by decide) ?_
    refine va_aldq (cA := kO 9) (n := 4) (f := fun q => some (hw (428 + q))) hx hb hK hP 10 9 rfl rfl (show ¬ ((2 : Int32) < 0 ∨ 4 ≤ (2 : Int32).toNatClampNeg) by decide) dX5_addTimes_29 ?_
    obtain ⟨k4, hk4, b_k4⟩ : ∃ k9 : Nat, k9 = 428 + (2 : Int32).toNatClampNeg ∧ (428 ≤ k9 ∧ k9 < 432 ∧ (k9 : Int) = 428 + 2) := ⟨_, rfl, ald_k (x := (2 : Int32)) (o := 428) (n := 4) (by decide : (2 : Int32).toInt = 2) (by omega) (by omega)⟩
    refine W.eq (g2 := F0 m 30 ls [.ref (hw k4), .ref (hw kb), .ref (hw k3)]) (by rw [hk4]; rfl) ?_
    clear hk4
    have p9 : List.Perm (WO hO aO kO hM hQ hw iO_answered iO_searched iO_searchedRelaxed iO_counted fO_countedCase gO_goalNumber gO_goalScale fO_start fO_column fO_chosen ++ (WM hM aM kM iM_stands iM_variables iM_rows iM_goals iM_differents iM_cases fM_from fM_to fM_whole fM_ways iM_plainRows fM_plainRow fM_kept fM_goalOver fM_goalUnder fM_goalMax fM_different ++ (WQ hQ aQ kQ hw fQ_inside fQ_outside fQ_shut iQ_rows iQ_allRows iQ_columns ++ (WW nW hw lw kw wl_2 wb_2 wG_2)))) ((WW nW hw lw kw wl_2 wb_2 wG_2) ++ (WO hO aO kO hM hQ hw iO_answered iO_searched iO_searchedRelaxed iO_counted fO_countedCase gO_goalNumber gO_goalScale fO_start fO_column fO_chosen ++ (WM hM aM kM iM_stands iM_variables iM_rows iM_goals iM_differents iM_cases fM_from fM_to fM_whole fM_ways iM_plainRows fM_plainRow fM_kept fM_goalOver fM_goalUnder fM_goalMax fM_different ++ (WQ hQ aQ kQ hw fQ_inside fQ_outside fQ_shut iQ_rows iQ_allRows iQ_columns)))) := ((List.Perm.append_left _ ((List.Perm.append_left _ (List.perm_append_comm)).trans (List.perm_append_comm_assoc _ _ _))).trans (List.perm_append_comm_assoc _ _ _))
    have hPc := hP.mem (fun q h => p9.mem_iff.mpr (List.mem_append_left _ h))
    have hDc := (hD.perm p9).left
    have hKc : va_K (dC, dI) vwCl (tW kw) _ := hK.sub [24] rfl
    have hFc := freeG p9 hD hS hA
    refine va_callv (va_runV (As := [.ref (hw kb), .ref (hw k4)]) (rest := []) ⟨hx, hb, hml, hown, hts⟩ (m_X8_setProduct l dC dI nW hw lw kw wl_2 wb_2 wG_2 k3 kb k4 b_wl_2 b_wb_2 (by first | assumption | omega | (rw [iI_t (by omega) (by omega)]; omega) | decide) (by first | assumption | omega | (rw [iI_t (by omega) (by omega)]; omega) | decide) (by first | assumption | omega | (rw [iI_t (by omega) (by omega)]; omega) | decide) H.size) (cwV 2 hts gwsMX5_addTimes_1 rfl rfl rfl hd_yX8_setProduct_RX8 (by decide +kernel)) (fz_pre (va_recv hK hP (ci := 8) (q0 := 11 + (11 + (5 + (k3)))) rfl (apR rfl (apR rfl (apR rfl (WW_o (by omega)))))) hPc hKc hDc) rfl rfl hl.1 rfl (lv_room (Nat.le_of_ble_eq_true rfl)) dX5_addTimes_30 (by decide +kernel)) hS (fun q _ h => hFc q h) hFc (fun u t9_ H locs ht hvm hw9 hB9 hz1 hk1 hS => ?_)
    obtain ⟨wl_5, wb_5, wG_5⟩ := u
    try dsimp only at hw9 hB9
    obtain ⟨b_wl_5, b_wb_5⟩ := hw9
    have p8 : List.Perm (WO hO aO kO hM hQ hw iO_answered iO_searched iO_searchedRelaxed iO_counted fO_countedCase gO_goalNumber gO_goalScale fO_start fO_column fO_chosen ++ (WM hM aM kM iM_stands iM_variables iM_rows iM_goals iM_differents iM_cases fM_from fM_to fM_whole fM_ways iM_plainRows fM_plainRow fM_kept fM_goalOver fM_goalUnder fM_goalMax fM_different ++ (WQ hQ aQ kQ hw fQ_inside fQ_outside fQ_shut iQ_rows iQ_allRows iQ_columns ++ (WW nW hw lw kw wl_5 wb_5 wG_5)))) ((WW nW hw lw kw wl_5 wb_5 wG_5) ++ (WO hO aO kO hM hQ hw iO_answered iO_searched iO_searchedRelaxed iO_counted fO_countedCase gO_goalNumber gO_goalScale fO_start fO_column fO_chosen ++ (WM hM aM kM iM_stands iM_variables iM_rows iM_goals iM_differents iM_cases fM_from fM_to fM_whole fM_ways iM_plainRows fM_plainRow fM_kept fM_goalOver fM_goalUnder fM_goalMax fM_different ++ (WQ hQ aQ kQ hw fQ_inside fQ_outside fQ_shut iQ_rows iQ_allRows iQ_columns)))) := ((List.Perm.append_left _ ((List.Perm.append_left _ (List.perm_append_comm)).trans (List.perm_append_comm_assoc _ _ _))).trans (List.perm_append_comm_assoc _ _ _))
    obtain ⟨hP, hD⟩ := frameG p9 p8 hP hD hk1 hFc (fz_P ht hB9.1) hB9.2
    have hP : va_P (dC, dI) vwCl (WO hO aO kO hM hQ hw iO_answered iO_searched iO_searchedRelaxed iO_counted fO_countedCase gO_goalNumber gO_goalScale fO_start fO_column fO_chosen ++ (WM hM aM kM iM_stands iM_variables iM_rows iM_goals iM_differents iM_cases fM_from fM_to fM_whole fM_ways iM_plainRows fM_plainRow fM_kept fM_goalOver fM_goalUnder fM_goalMax fM_different ++ (WQ hQ aQ kQ hw fQ_inside fQ_outside fQ_shut iQ_rows iQ_allRows iQ_columns ++ (WW nW hw lw kw wl_5 wb_5 wG_5)))) H := hP
    have hD : va_D A (WO hO aO kO hM hQ hw iO_answered iO_searched iO_searchedRelaxed iO_counted fO_countedCase gO_goalNumber gO_goalScale fO_start fO_column fO_chosen ++ (WM hM aM kM iM_stands iM_variables iM_rows iM_goals iM_differents iM_cases fM_from fM_to fM_whole fM_ways iM_plainRows fM_plainRow fM_kept fM_goalOver fM_goalUnder fM_goalMax fM_different ++ (WQ hQ aQ kQ hw fQ_inside fQ_outside fQ_shut iQ_rows iQ_allRows iQ_columns ++ (WW nW hw lw kw wl_5 wb_5 wG_5)))) := hD
    refine lv_aload_n hx hb dX5_addTimes_33 rfl (lv_at hl 1 rfl) ?_
    refine lv_aload_n hx hb dX5_addTimes_34 rfl (lv_at hl 0 rfl) ?_
    refine va_get (D := (dC, dI)) (ci := 5) (v := .ref (aO 9)) (C := RX5) (T := TX5) (N := 19) hx hb hts iwsMX5_addTimes_in5 hown hK hP 0 rfl rfl 18 (by decide) (hts (.fieldLink RX5 71 "OptimaWorks$Solver" "spare" "[LOptimaWorks$Whole;") (by decide +kernel)) (fun _ h9 => h9) rfl dX5_addTimes_35 ?_
    refine lv_iconst (v := 3) hx hb dX5_addTimes_38 (by decide) ?_
    refine va_aldq (cA := kO 9) (n := 4) (f := fun q => some (hw (428 + q))) hx hb hK hP 10 9 rfl rfl (show ¬ ((3 : Int32) < 0 ∨ 4 ≤ (3 : Int32).toNatClampNeg) by decide) dX5_addTimes_39 ?_
    obtain ⟨k6, hk6, b_k6⟩ : ∃ k9 : Nat, k9 = 428 + (3 : Int32).toNatClampNeg ∧ (428 ≤ k9 ∧ k9 < 432 ∧ (k9 : Int) = 428 + 3) := ⟨_, rfl, ald_k (x := (3 : Int32)) (o := 428) (n := 4) (by decide : (3 : Int32).toInt = 3) (by omega) (by omega)⟩
    refine W.eq (g2 := F0 m 40 ls [.ref (hw k6), .ref (hw ka)]) (by rw [hk6]; rfl) ?_
    clear hk6
    have p9 : List.Perm (WO hO aO kO hM hQ hw iO_answered iO_searched iO_searchedRelaxed iO_counted fO_countedCase gO_goalNumber gO_goalScale fO_start fO_column fO_chosen ++ (WM hM aM kM iM_stands iM_variables iM_rows iM_goals iM_differents iM_cases fM_from fM_to fM_whole fM_ways iM_plainRows fM_plainRow fM_kept fM_goalOver fM_goalUnder fM_goalMax fM_different ++ (WQ hQ aQ kQ hw fQ_inside fQ_outside fQ_shut iQ_rows iQ_allRows iQ_columns ++ (WW nW hw lw kw wl_5 wb_5 wG_5)))) ((WW nW hw lw kw wl_5 wb_5 wG_5) ++ (WO hO aO kO hM hQ hw iO_answered iO_searched iO_searchedRelaxed iO_counted fO_countedCase gO_goalNumber gO_goalScale fO_start fO_column fO_chosen ++ (WM hM aM kM iM_stands iM_variables iM_rows iM_goals iM_differents iM_cases fM_from fM_to fM_whole fM_ways iM_plainRows fM_plainRow fM_kept fM_goalOver fM_goalUnder fM_goalMax fM_different ++ (WQ hQ aQ kQ hw fQ_inside fQ_outside fQ_shut iQ_rows iQ_allRows iQ_columns)))) := ((List.Perm.append_left _ ((List.Perm.append_left _ (List.perm_append_comm)).trans (List.perm_append_comm_assoc _ _ _))).trans (List.perm_append_comm_assoc _ _ _))
    have hPc := hP.mem (fun q h => p9.mem_iff.mpr (List.mem_append_left _ h))
    have hDc := (hD.perm p9).left
    have hKc : va_K (dC, dI) vwCl (tW kw) _ := hK.sub [24] rfl
    have hFc := freeG p9 hD hS hA
    refine va_callv (va_runV (As := [.ref (hw k6)]) (rest := []) ⟨hx, hb, hml, hown, hts⟩ (m_X8_add l dC dI nW hw lw kw wl_5 wb_5 wG_5 ka k6 b_wl_5 b_wb_5 (by first | assumption | omega | (rw [iI_t (by omega) (by omega)]; omega) | decide) (by first | assumption | omega | (rw [iI_t (by omega) (by omega)]; omega) | decide) H.size) (cwV 1 hts gwsMX5_addTimes_2 rfl rfl rfl hd_yX8_add_RX8 (by decide +kernel)) (fz_pre (va_recv hK hP (ci := 8) (q0 := 11 + (11 + (5 + (ka)))) rfl (apR rfl (apR rfl (apR rfl (WW_o (by omega)))))) hPc hKc hDc) rfl rfl hl.1 rfl (lv_room (Nat.le_of_ble_eq_true rfl)) dX5_addTimes_40 (by decide +kernel)) hS (fun q _ h => hFc q h) hFc (fun u t9_ H locs ht hvm hw9 hB9 hz1 hk1 hS => ?_)
    obtain ⟨wl_7, wb_7, wG_7⟩ := u
    try dsimp only at hw9 hB9
    obtain ⟨b_wl_7, b_wb_7⟩ := hw9
    have p8 : List.Perm (WO hO aO kO hM hQ hw iO_answered iO_searched iO_searchedRelaxed iO_counted fO_countedCase gO_goalNumber gO_goalScale fO_start fO_column fO_chosen ++ (WM hM aM kM iM_stands iM_variables iM_rows iM_goals iM_differents iM_cases fM_from fM_to fM_whole fM_ways iM_plainRows fM_plainRow fM_kept fM_goalOver fM_goalUnder fM_goalMax fM_different ++ (WQ hQ aQ kQ hw fQ_inside fQ_outside fQ_shut iQ_rows iQ_allRows iQ_columns ++ (WW nW hw lw kw wl_7 wb_7 wG_7)))) ((WW nW hw lw kw wl_7 wb_7 wG_7) ++ (WO hO aO kO hM hQ hw iO_answered iO_searched iO_searchedRelaxed iO_counted fO_countedCase gO_goalNumber gO_goalScale fO_start fO_column fO_chosen ++ (WM hM aM kM iM_stands iM_variables iM_rows iM_goals iM_differents iM_cases fM_from fM_to fM_whole fM_ways iM_plainRows fM_plainRow fM_kept fM_goalOver fM_goalUnder fM_goalMax fM_different ++ (WQ hQ aQ kQ hw fQ_inside fQ_outside fQ_shut iQ_rows iQ_allRows iQ_columns)))) := ((List.Perm.append_left _ ((List.Perm.append_left _ (List.perm_append_comm)).trans (List.perm_append_comm_assoc _ _ _))).trans (List.perm_append_comm_assoc _ _ _))
    obtain ⟨hP, hD⟩ := frameG p9 p8 hP hD hk1 hFc (fz_P ht hB9.1) hB9.2
    have hP : va_P (dC, dI) vwCl (WO hO aO kO hM hQ hw iO_answered iO_searched iO_searchedRelaxed iO_counted fO_countedCase gO_goalNumber gO_goalScale fO_start fO_column fO_chosen ++ (WM hM aM kM iM_stands iM_variables iM_rows iM_goals iM_differents iM_cases fM_from fM_to fM_whole fM_ways iM_plainRows fM_plainRow fM_kept fM_goalOver fM_goalUnder fM_goalMax fM_different ++ (WQ hQ aQ kQ hw fQ_inside fQ_outside fQ_shut iQ_rows iQ_allRows iQ_columns ++ (WW nW hw lw kw wl_7 wb_7 wG_7)))) H := hP
    have hD : va_D A (WO hO aO kO hM hQ hw iO_answered iO_searched iO_searchedRelaxed iO_counted fO_countedCase gO_goalNumber gO_goalScale fO_start fO_column fO_chosen ++ (WM hM aM kM iM_stands iM_variables iM_rows iM_goals iM_differents iM_cases fM_from fM_to fM_whole fM_ways iM_plainRows fM_plainRow fM_kept fM_goalOver fM_goalUnder fM_goalMax fM_different ++ (WQ hQ aQ kQ hw fQ_inside fQ_outside fQ_shut iQ_rows iQ_allRows iQ_columns ++ (WW nW hw lw kw wl_7 wb_7 wG_7)))) := hD
    refine W.widen (k := 0) (n := 0) (by decide +kernel) (by decide +kernel) ?_
    exact W.vret hx hb hr (fun t9_ ht hW => ⟨⟨(wl_7, wb_7, wG_7), rfl, ⟨b_wl_7, b_wb_7⟩, by rw [ht]; exact hP, hD⟩, hS.F ht⟩) hS.2.2 dX5_addTimes_43
  · have t_3 : p3.toInt = 0 := toL_nne c_3 rfl (by decide : (0 : Int64).toInt = 0)
    refine W.widen (k := 0) (n := 0) (by decide +kernel) (by decide +kernel) ?_
    exact W.vret hx hb hr (fun t9_ ht hW => ⟨⟨(wl, wb, wG), rfl, ⟨b_wl, b_wb⟩, by rw [ht]; exact hP, hD⟩, hS.F ht⟩) hS.2.2 dX5_addTimes_6

theorem hd_yX7_takeMembers_RX7 : yX7_takeMembers.cls = RX7 ∧ yX7_takeMembers.cls ≠ "java/lang/invoke/MethodHandle" ∧ yX7_takeMembers.cls ≠ "java/lang/invoke/VarHandle" ∧ (parseMethodDescriptor yX7_takeMembers.desc).map (fun d => d.parameters.length) = some 1 := by decide +kernel
theorem hd_yX7_cutTo_RX7 : yX7_cutTo.cls = RX7 ∧ yX7_cutTo.cls ≠ "java/lang/invoke/MethodHandle" ∧ yX7_cutTo.cls ≠ "java/lang/invoke/VarHandle" ∧ (parseMethodDescriptor yX7_cutTo.desc).map (fun d => d.parameters.length) = some 2 := by decide +kernel
theorem dX7_highest_0 : decode cX7_highest 0 = .ok (.iconst (-1), 1) := dk_2 (by decide +kernel)
theorem dX7_highest_1 : decode cX7_highest 1 = .ok (.istore_n 1, 1) := dk_60 (by decide +kernel)
theorem dX7_highest_2 : decode cX7_highest 2 = .ok (.iconst 0, 1) := dk_3 (by decide +kernel)
theorem dX7_highest_3 : decode cX7_highest 3 = .ok (.istore_n 2, 1) := dk_61 (by decide +kernel)
theorem dX7_highest_4 : decode cX7_highest 4 = .ok (.iload_n 2, 1) := dk_28 (by decide +kernel)
theorem dX7_highest_5 : decode cX7_highest 5 = .ok (.bipush 16, 2) := dk_16 (by decide +kernel)
theorem dX7_highest_7 : decode cX7_highest 7 = .ok (.if_icmp .ge 23, 3) := dk_162 (by decide +kernel)
theorem dX7_highest_10 : decode cX7_highest 10 = .ok (.iload_n 0, 1) := dk_26 (by decide +kernel)
theorem dX7_highest_11 : decode cX7_highest 11 = .ok (.iload_n 2, 1) := dk_28 (by decide +kernel)
theorem dX7_highest_12 : decode cX7_highest 12 = .ok (.ishr, 1) := dk_122 (by decide +kernel)
theorem dX7_highest_13 : decode cX7_highest 13 = .ok (.iconst 1, 1) := dk_4 (by decide +kernel)
theorem dX7_highest_14 : decode cX7_highest 14 = .ok (.iand, 1) := dk_126 (by decide +kernel)
theorem dX7_highest_15 : decode cX7_highest 15 = .ok (.ifCond .eq 7, 3) := dk_153 (by decide +kernel)
theorem dX7_highest_18 : decode cX7_highest 18 = .ok (.iload_n 2, 1) := dk_28 (by decide +kernel)
theorem dX7_highest_19 : decode cX7_highest 19 = .ok (.goto 4, 3) := dk_167 (by decide +kernel)
theorem dX7_highest_22 : decode cX7_highest 22 = .ok (.iload_n 1, 1) := dk_27 (by decide +kernel)
theorem dX7_highest_23 : decode cX7_highest 23 = .ok (.istore_n 1, 1) := dk_60 (by decide +kernel)
theorem dX7_highest_24 : decode cX7_highest 24 = .ok (.iinc 2 1, 3) := dk_132 (by decide +kernel)
theorem dX7_highest_27 : decode cX7_highest 27 = .ok (.goto (-23), 3) := dk_167 (by decide +kernel)
theorem dX7_highest_30 : decode cX7_highest 30 = .ok (.iload_n 1, 1) := dk_27 (by decide +kernel)
theorem dX7_highest_31 : decode cX7_highest 31 = .ok (.ireturn, 1) := dk_172 (by decide +kernel)
def wsMX7_highest : List Cond := .code yX7_highest cX7_highest 3 (some .int) :: ([])
theorem gdwsMX7_highest : wsMX7_highest.all goodWord = true := gdC rfl (by decide +kernel : ([] : List Cond).all goodWord = true)
set_option maxHeartbeats 4000000 in
set_option maxRecDepth 100000 in
/-- the highest bit -/
theorem m_X7_highest (l : Launch) (dC : Nat → ClassId) (dI : Nat → Nat → Nat) (p1 : Int32) (sz : Nat) : Met l yX7_highest wsMX7_highest ({ frames := 0, cells := 0, slots := 0, locals := 0 }) (va_Pc [.int p1] (fun U => U.heap.size = sz ∧ va_P (dC, dI) vwCl [] U.heap ∧ va_K (dC, dI) vwCl [] U ∧ va_D (fun _ => True) [])) (va_Qi (fun (r : Int32) (u : Unit) => ((-1) ≤ r.toInt ∧ r.toInt ≤ 15)) (fun (u : Unit) t => True) (va_A [] sz)) 0 0 (va_A [] sz) := by
  refine Met.ofW (cc := cX7_highest) (maxL := 3) (ret := (some .int)) (by decide) rfl ?_
  intro p e s m args below meth c s₁ B hml hv
  obtain ⟨rfl, hsz, hP, hK, hD0⟩ := hv
  have hx := B.exec
  have hb := B.bytes
  have hr := B.returns
  have hts := atoms_spec (ws := wsMX7_highest) B.pre
  have hown : s.vm.findClass RX7 = some m.cls := findClass_of_methodNamed B.named
  have hlocks := B.notSynchronized
  subst hsz
  have hD := hD0.self (sz := s.heap.size)
  generalize hAe : va_A [] s.heap.size = A at hD ⊢
  have hA : ∀ q : Nat, s.heap.size ≤ q → A q := fun q h => by rw [← hAe]; exact Or.inr h
  have hS : va_S A s.heap s.heap [] := va_S.rf
  have hl := lv_entry ([.int p1]) (n := 3) (Nat.le_of_ble_eq_true rfl)
  rw [lg_entry_eq]
  generalize (lg_sl ([.int p1]) ++ List.replicate (3 - (lg_sl ([.int p1])).length) Slot.unset).toArray = ls at hl ⊢
  have hl : lv_has ls 3 [(0, .int p1)] := hl
  refine lv_iconst (v := (-1)) hx hb dX7_highest_0 (by decide) ?_
  refine lv_istore_n hx hb dX7_highest_1 rfl hl (by decide) rfl (fun ls (hl : lv_has ls _ ([(1, .int (-1)), (0, .int p1)])) => ?_)
  refine lv_iconst (v := 0) hx hb dX7_highest_2 (by decide) ?_
  refine lv_istore_n hx hb dX7_highest_3 rfl hl (by decide) rfl (fun ls (hl : lv_has ls _ ([(2, .int 0), (1, .int (-1)), (0, .int p1)])) => ?_)
  have hl : lv_has _ _ ([(2, .int 0), (1, .int (-1)), (0, .int p1)]) := lv_sub hl [0, 1, 2] rfl
  refine (fun (loop : ∀ (n9 : Nat) (l2_x4 : Int32) (l1_x4 : Int32) (H : Heap) (locs : List Loc) (ls : Array Slot), (0 ≤ l2_x4.toInt ∧ l2_x4.toInt ≤ 16) → ((-1) ≤ l1_x4.toInt ∧ l1_x4.toInt ≤ 15) → (16 - l2_x4.toInt < ((n9 : Nat) : Int)) → va_P (dC, dI) vwCl ([]) H → va_D A ([]) → va_S A s.heap H locs → lv_has ls 3 [(2, .int l2_x4), (1, .int l1_x4), (0, .int p1)] → W p l e _ s m _ below meth c H locs 0 0 _ (F0 m 4 ls [])) => loop (17) 0 (-1) _ _ _ (show 0 ≤ (0 : Int32).toInt ∧ (0 : Int32).toInt ≤ 16 from by decide) (show (-1) ≤ ((-1) : Int32).toInt ∧ ((-1) : Int32).toInt ≤ 15 from by decide) ((by have e9 : (0 : Int32).toInt = 0 := (by decide : (0 : Int32).toInt = 0); omega)) hP hD hS hl) ?_
  intro n9
  induction n9 with
  | zero => intro l2_x4 l1_x4 H locs ls b_l2_x4 b_l1_x4 hf9; exact False.elim (by omega)
  | succ n9 ihx4 =>
    intro l2_x4 l1_x4 H locs ls b_l2_x4 b_l1_x4 hfx4 hP hD hS hl
    refine lv_iload_n hx hb dX7_highest_4 rfl (lv_at hl 0 rfl) ?_
    refine lv_bipush (v := 16) hx hb dX7_highest_5 (by decide) ?_
    refine lv_icmp_ge (tgt := 30) hx hb dX7_highest_7 (by decide) (fun c_7 => ?_) (fun c_7 => ?_)
    · have t_7 : l2_x4.toInt ≥ 16 := toI_ge c_7 rfl (by decide : (16 : Int32).toInt = 16)
      refine lv_iload_n hx hb dX7_highest_30 rfl (lv_at hl 1 rfl) ?_
      refine W.widen (k := 0) (n := 0) (by decide +kernel) (by decide +kernel) ?_
      exact W.iret (v := l1_x4) hx hb hr (fun t9_ ht hW => ⟨⟨l1_x4, (), rfl, (b_l1_x4), trivial⟩, hS.F ht⟩) hS.2.2 dX7_highest_31
    · have t_7 : ¬ l2_x4.toInt ≥ 16 := toI_nge c_7 rfl (by decide : (16 : Int32).toInt = 16)
      refine lv_iload_n hx hb dX7_highest_10 rfl (lv_at hl 2 rfl) ?_
      refine lv_iload_n hx hb dX7_highest_11 rfl (lv_at hl 0 rfl) ?_
      refine lv_ishr hx hb dX7_highest_12 ?_
      refine lv_topi (fun v9 hv9 => ?_)
      clear hv9
      refine lv_iconst (v := 1) hx hb dX7_highest_13 (by decide) ?_
      refine lv_iand hx hb dX7_highest_14 ?_
      refine lv_topi (fun v10 hv10 => ?_)
      have b_v10 : 0 ≤ v10.toInt ∧ v10.toInt ≤ 1 := by rw [hv10]; exact and_rng _ (by decide) (by decide)
      clear hv10
      refine W.cut (pc := 23) (fun H locs ls stk => ∃ (k0_j10 : Int32), ((-1) ≤ k0_j10.toInt ∧ k0_j10.toInt ≤ 15) ∧  stk = [.int k0_j10] ∧ va_P (dC, dI) vwCl ([]) H ∧ va_D A ([]) ∧ va_S A s.heap H locs ∧ lv_has ls 3 [(2, .int l2_x4), (1, .int l1_x4), (0, .int p1)]) (fun join10 => ?_) ?_
      · refine lv_if_eq (tgt := 22) hx hb dX7_highest_15 (by decide) (fun c_15 => ?_) (fun c_15 => ?_)
        · have t_15 : v10.toInt = 0 := toI_eq c_15 rfl (by decide : (0 : Int32).toInt = 0)
          refine lv_iload_n hx hb dX7_highest_22 rfl (lv_at hl 1 rfl) ?_
          have hl : lv_has _ _ ([(2, .int l2_x4), (1, .int l1_x4), (0, .int p1)]) := lv_sub hl [0, 1, 2] rfl
          exact join10 _ _ _ _ ⟨l1_x4, (b_l1_x4), rfl, hP, hD, hS, hl⟩
        · have t_15 : ¬ v10.toInt = 0 := toI_neq c_15 rfl (by decide : (0 : Int32).toInt = 0)
          refine lv_iload_n hx hb dX7_highest_18 rfl (lv_at hl 0 rfl) ?_
          refine lv_goto (tgt := 23) hx hb dX7_highest_19 (by decide) ?_
          have hl : lv_has _ _ ([(2, .int l2_x4), (1, .int l1_x4), (0, .int p1)]) := lv_sub hl [0, 1, 2] rfl
          exact join10 _ _ _ _ ⟨l2_x4, (by first | exact b_l2_x4 | with_reducible assumption | exact ⟨by omega, by omega⟩ | assumption), rfl, hP, hD, hS, hl⟩
      · rintro H locs ls stk ⟨k0_j10, b_k0_j10, rfl, hP, hD, hS, hl⟩
        refine lv_istore_n hx hb dX7_highest_23 rfl hl (by decide) rfl (fun ls (hl : lv_has ls _ ([(1, .int k0_j10), (2, .int l2_x4), (0, .int p1)])) => ?_)
        refine lv_iinc (v := (iI (l2_x4.toInt + 1))) hx hb dX7_highest_24 hl (k := 1) rfl (iI_add2 (iI_of _) (by decide : (1 : Int32) = iI 1)) (by decide) rfl (fun ls (hl : lv_has ls _ ([(2, .int (iI (l2_x4.toInt + 1))), (1, .int k0_j10), (0, .int p1)])) => ?_)
        refine lv_goto (tgt := 4) hx hb dX7_highest_27 (by decide) ?_
        have hl : lv_has _ _ ([(2, .int (iI (l2_x4.toInt + 1))), (1, .int k0_j10), (0, .int p1)]) := lv_sub hl [0, 1, 2] rfl
        exact ihx4 (iI (l2_x4.toInt + 1)) k0_j10 _ _ _ (iI_rng (Int.le_trans (by decide) (Int.add_le_add (b_l2_x4.1) (Int.le_refl _))) (by omega) (by decide) (by decide)) (b_k0_j10) (by have e9 : ((iI (l2_x4.toInt + 1))).toInt = (l2_x4.toInt + 1) := (iI_t (Int.le_trans (by decide) (Int.add_le_add (b_l2_x4.1) (Int.le_refl _))) (Int.le_trans (Int.add_le_add (b_l2_x4.2) (Int.le_refl _)) (by decide))); omega) hP hD hS hl
theorem dX7_lowest_0 : decode cX7_lowest 0 = .ok (.iconst 0, 1) := dk_3 (by decide +kernel)
theorem dX7_lowest_1 : decode cX7_lowest 1 = .ok (.istore_n 1, 1) := dk_60 (by decide +kernel)
theorem dX7_lowest_2 : decode cX7_lowest 2 = .ok (.iload_n 1, 1) := dk_27 (by decide +kernel)
theorem dX7_lowest_3 : decode cX7_lowest 3 = .ok (.bipush 16, 2) := dk_16 (by decide +kernel)
theorem dX7_lowest_5 : decode cX7_lowest 5 = .ok (.if_icmp .ge 17, 3) := dk_162 (by decide +kernel)
theorem dX7_lowest_8 : decode cX7_lowest 8 = .ok (.iload_n 0, 1) := dk_26 (by decide +kernel)
theorem dX7_lowest_9 : decode cX7_lowest 9 = .ok (.iload_n 1, 1) := dk_27 (by decide +kernel)
theorem dX7_lowest_10 : decode cX7_lowest 10 = .ok (.ishr, 1) := dk_122 (by decide +kernel)
theorem dX7_lowest_11 : decode cX7_lowest 11 = .ok (.iconst 1, 1) := dk_4 (by decide +kernel)
theorem dX7_lowest_12 : decode cX7_lowest 12 = .ok (.iand, 1) := dk_126 (by decide +kernel)
theorem dX7_lowest_13 : decode cX7_lowest 13 = .ok (.ifCond .ne 9, 3) := dk_154 (by decide +kernel)
theorem dX7_lowest_16 : decode cX7_lowest 16 = .ok (.iinc 1 1, 3) := dk_132 (by decide +kernel)
theorem dX7_lowest_19 : decode cX7_lowest 19 = .ok (.goto (-17), 3) := dk_167 (by decide +kernel)
theorem dX7_lowest_22 : decode cX7_lowest 22 = .ok (.iload_n 1, 1) := dk_27 (by decide +kernel)
theorem dX7_lowest_23 : decode cX7_lowest 23 = .ok (.ireturn, 1) := dk_172 (by decide +kernel)
def wsMX7_lowest : List Cond := .code yX7_lowest cX7_lowest 2 (some .int) :: ([])
theorem gdwsMX7_lowest : wsMX7_lowest.all goodWord = true := gdC rfl (by decide +kernel : ([] : List Cond).all goodWord = true)
set_option maxHeartbeats 4000000 in
set_option maxRecDepth 100000 in
/-- the lowest bit -/
theorem m_X7_lowest (l : Launch) (dC : Nat → ClassId) (dI : Nat → Nat → Nat) (p1 : Int32) (sz : Nat) : Met l yX7_lowest wsMX7_lowest ({ frames := 0, cells := 0, slots := 0, locals := 0 }) (va_Pc [.int p1] (fun U => U.heap.size = sz ∧ va_P (dC, dI) vwCl [] U.heap ∧ va_K (dC, dI) vwCl [] U ∧ va_D (fun _ => True) [])) (va_Qi (fun (r : Int32) (u : Unit) => (0 ≤ r.toInt ∧ r.toInt ≤ 16)) (fun (u : Unit) t => True) (va_A [] sz)) 0 0 (va_A [] sz) := by
  refine Met.ofW (cc := cX7_lowest) (maxL := 2) (ret := (some .int)) (by decide) rfl ?_
  intro p e s m args below meth c s₁ B hml hv
  obtain ⟨rfl, hsz, hP, hK, hD0⟩ := hv
  have hx := B.exec
  have hb := B.bytes
  have hr := B.returns
  have hts := atoms_spec (ws := wsMX7_lowest) B.pre
  have hown : s.vm.findClass RX7 = some m.cls := findClass_of_methodNamed B.named
  have hlocks := B.notSynchronized
  subst hsz
  have hD := hD0.self (sz := s.heap.size)
  generalize hAe : va_A [] s.heap.size = A at hD ⊢
  have hA : ∀ q : Nat, s.heap.size ≤ q → A q := fun q h => by rw [← hAe]; exact Or.inr h
  have hS : va_S A s.heap s.heap [] := va_S.rf
  have hl := lv_entry ([.int p1]) (n := 2) (Nat.le_of_ble_eq_true rfl)
  rw [lg_entry_eq]
  generalize (lg_sl ([.int p1]) ++ List.replicate (2 - (lg_sl ([.int p1])).length) Slot.unset).toArray = ls at hl ⊢
  have hl : lv_has ls 2 [(0, .int p1)] := hl
  refine lv_iconst (v := 0) hx hb dX7_lowest_0 (by decide) ?_
  refine lv_istore_n hx hb dX7_lowest_1 rfl hl (by decide) rfl (fun ls (hl : lv_has ls _ ([(1, .int 0), (0, .int p1)])) => ?_)
  have hl : lv_has _ _ ([(1, .int 0), (0, .int p1)]) := lv_sub hl [0, 1] rfl
  refine (fun (loop : ∀ (n9 : Nat) (l1_x2 : Int32) (H : Heap) (locs : List Loc) (ls : Array Slot), (0 ≤ l1_x2.toInt ∧ l1_x2.toInt ≤ 16) → (16 - l1_x2.toInt < ((n9 : Nat) : Int)) → va_P (dC, dI) vwCl ([]) H → va_D A ([]) → va_S A s.heap H locs → lv_has ls 2 [(1, .int l1_x2), (0, .int p1)] → W p l e _ s m _ below meth c H locs 0 0 _ (F0 m 2 ls [])) => loop (17) 0 _ _ _ (show 0 ≤ (0 : Int32).toInt ∧ (0 : Int32).toInt ≤ 16 from by decide) ((by have e9 : (0 : Int32).toInt = 0 := (by decide : (0 : Int32).toInt = 0); omega)) hP hD hS hl) ?_
  intro n9
  induction n9 with
  | zero => intro l1_x2 H locs ls b_l1_x2 hf9; exact False.elim (by omega)
  | succ n9 ihx2 =>
    intro l1_x2 H locs ls b_l1_x2 hfx2 hP hD hS hl
    refine lv_iload_n hx hb dX7_lowest_2 rfl (lv_at hl 0 rfl) ?_
    refine lv_bipush (v := 16) hx hb dX7_lowest_3 (by decide) ?_
    refine W.cut (pc := 22) (fun H locs ls stk =>  stk = [] ∧ va_P (dC, dI) vwCl ([]) H ∧ va_D A ([]) ∧ va_S A s.heap H locs ∧ lv_has ls 2 [(1, .int l1_x2), (0, .int p1)]) (fun join4 => ?_) ?_
    · refine lv_icmp_ge (tgt := 22) hx hb dX7_lowest_5 (by decide) (fun c_5 => ?_) (fun c_5 => ?_)
      · have t_5 : l1_x2.toInt ≥ 16 := toI_ge c_5 rfl (by decide : (16 : Int32).toInt = 16)
        have hl : lv_has _ _ ([(1, .int l1_x2), (0, .int p1)]) := lv_sub hl [0, 1] rfl
        exact join4 _ _ _ _ ⟨rfl, hP, hD, hS, hl⟩
      · have t_5 : ¬ l1_x2.toInt ≥ 16 := toI_nge c_5 rfl (by decide : (16 : Int32).toInt = 16)
        refine lv_iload_n hx hb dX7_lowest_8 rfl (lv_at hl 1 rfl) ?_
        refine lv_iload_n hx hb dX7_lowest_9 rfl (lv_at hl 0 rfl) ?_
        refine lv_ishr hx hb dX7_lowest_10 ?_
        refine lv_topi (fun v9 hv9 => ?_)
        clear hv9
        refine lv_iconst (v := 1) hx hb dX7_lowest_11 (by decide) ?_
        refine lv_iand hx hb dX7_lowest_12 ?_
        refine lv_topi (fun v10 hv10 => ?_)
        have b_v10 : 0 ≤ v10.toInt ∧ v10.toInt ≤ 1 := by rw [hv10]; exact and_rng _ (by decide) (by decide)
        clear hv10
        refine lv_if_ne (tgt := 22) hx hb dX7_lowest_13 (by decide) (fun c_13 => ?_) (fun c_13 => ?_)
        · have t_13 : v10.toInt ≠ 0 := toI_ne c_13 rfl (by decide : (0 : Int32).toInt = 0)
          have hl : lv_has _ _ ([(1, .int l1_x2), (0, .int p1)]) := lv_sub hl [0, 1] rfl
          exact join4 _ _ _ _ ⟨rfl, hP, hD, hS, hl⟩
        · have t_13 : v10.toInt = 0 := toI_nne c_13 rfl (by decide : (0 : Int32).toInt = 0)
          refine lv_iinc (v := (iI (l1_x2.toInt + 1))) hx hb dX7_lowest_16 hl (k := 0) rfl (iI_add2 (iI_of _) (by decide : (1 : Int32) = iI 1)) (by decide) rfl (fun ls (hl : lv_has ls _ ([(1, .int (iI (l1_x2.toInt + 1))), (0, .int p1)])) => ?_)
          refine lv_goto (tgt := 2) hx hb dX7_lowest_19 (by decide) ?_
          have hl : lv_has _ _ ([(1, .int (iI (l1_x2.toInt + 1))), (0, .int p1)]) := lv_sub hl [0, 1] rfl
          exact ihx2 (iI (l1_x2.toInt + 1)) _ _ _ (iI_rng (Int.le_trans (by decide) (Int.add_le_add (b_l1_x2.1) (Int.le_refl _))) (by omega) (by decide) (by decide)) (by have e9 : ((iI (l1_x2.toInt + 1))).toInt = (l1_x2.toInt + 1) := (iI_t (Int.le_trans (by decide) (Int.add_le_add (b_l1_x2.1) (Int.le_refl _))) (Int.le_trans (Int.add_le_add (b_l1_x2.2) (Int.le_refl _)) (by decide))); omega) hP hD hS hl
    · rintro H locs ls stk ⟨rfl, hP, hD, hS, hl⟩
      refine lv_iload_n hx hb dX7_lowest_22 rfl (lv_at hl 0 rfl) ?_
      refine W.widen (k := 0) (n := 0) (by decide +kernel) (by decide +kernel) ?_
      exact W.iret (v := l1_x2) hx hb hr (fun t9_ ht hW => ⟨⟨l1_x2, (), rfl, (b_l1_x2), trivial⟩, hS.F ht⟩) hS.2.2 dX7_lowest_23
theorem dX7_addRule_0 : decode cX7_addRule 0 = .ok (.aload_n 0, 1) := dk_42 (by decide +kernel)
theorem dX7_addRule_1 : decode cX7_addRule 1 = .ok (.getfield 18, 3) := dk_180 (by decide +kernel)
theorem dX7_addRule_4 : decode cX7_addRule 4 = .ok (.aload_n 0, 1) := dk_42 (by decide +kernel)
theorem dX7_addRule_5 : decode cX7_addRule 5 = .ok (.getfield 62, 3) := dk_180 (by decide +kernel)
theorem dX7_addRule_8 : decode cX7_addRule 8 = .ok (.iload_n 1, 1) := dk_27 (by decide +kernel)
theorem dX7_addRule_9 : decode cX7_addRule 9 = .ok (.iastore, 1) := dk_79 (by decide +kernel)
theorem dX7_addRule_10 : decode cX7_addRule 10 = .ok (.aload_n 0, 1) := dk_42 (by decide +kernel)
theorem dX7_addRule_11 : decode cX7_addRule 11 = .ok (.getfield 21, 3) := dk_180 (by decide +kernel)
theorem dX7_addRule_14 : decode cX7_addRule 14 = .ok (.aload_n 0, 1) := dk_42 (by decide +kernel)
theorem dX7_addRule_15 : decode cX7_addRule 15 = .ok (.getfield 62, 3) := dk_180 (by decide +kernel)
theorem dX7_addRule_18 : decode cX7_addRule 18 = .ok (.iload_n 2, 1) := dk_28 (by decide +kernel)
theorem dX7_addRule_19 : decode cX7_addRule 19 = .ok (.iastore, 1) := dk_79 (by decide +kernel)
theorem dX7_addRule_20 : decode cX7_addRule 20 = .ok (.aload_n 0, 1) := dk_42 (by decide +kernel)
theorem dX7_addRule_21 : decode cX7_addRule 21 = .ok (.getfield 24, 3) := dk_180 (by decide +kernel)
theorem dX7_addRule_24 : decode cX7_addRule 24 = .ok (.aload_n 0, 1) := dk_42 (by decide +kernel)
theorem dX7_addRule_25 : decode cX7_addRule 25 = .ok (.getfield 62, 3) := dk_180 (by decide +kernel)
theorem dX7_addRule_28 : decode cX7_addRule 28 = .ok (.iload_n 3, 1) := dk_29 (by decide +kernel)
theorem dX7_addRule_29 : decode cX7_addRule 29 = .ok (.iastore, 1) := dk_79 (by decide +kernel)
theorem dX7_addRule_30 : decode cX7_addRule 30 = .ok (.aload_n 0, 1) := dk_42 (by decide +kernel)
theorem dX7_addRule_31 : decode cX7_addRule 31 = .ok (.getfield 27, 3) := dk_180 (by decide +kernel)
theorem dX7_addRule_34 : decode cX7_addRule 34 = .ok (.aload_n 0, 1) := dk_42 (by decide +kernel)
theorem dX7_addRule_35 : decode cX7_addRule 35 = .ok (.getfield 62, 3) := dk_180 (by decide +kernel)
theorem dX7_addRule_38 : decode cX7_addRule 38 = .ok (.iload 4, 2) := dk_21 (by decide +kernel)
theorem dX7_addRule_40 : decode cX7_addRule 40 = .ok (.iastore, 1) := dk_79 (by decide +kernel)
theorem dX7_addRule_41 : decode cX7_addRule 41 = .ok (.aload_n 0, 1) := dk_42 (by decide +kernel)
theorem dX7_addRule_42 : decode cX7_addRule 42 = .ok (.getfield 11, 3) := dk_180 (by decide +kernel)
theorem dX7_addRule_45 : decode cX7_addRule 45 = .ok (.iconst 0, 1) := dk_3 (by decide +kernel)
theorem dX7_addRule_46 : decode cX7_addRule 46 = .ok (.aload_n 0, 1) := dk_42 (by decide +kernel)
theorem dX7_addRule_47 : decode cX7_addRule 47 = .ok (.getfield 30, 3) := dk_180 (by decide +kernel)
theorem dX7_addRule_50 : decode cX7_addRule 50 = .ok (.aload_n 0, 1) := dk_42 (by decide +kernel)
theorem dX7_addRule_51 : decode cX7_addRule 51 = .ok (.getfield 62, 3) := dk_180 (by decide +kernel)
theorem dX7_addRule_54 : decode cX7_addRule 54 = .ok (.bipush 16, 2) := dk_16 (by decide +kernel)
theorem dX7_addRule_56 : decode cX7_addRule 56 = .ok (.imul, 1) := dk_104 (by decide +kernel)
theorem dX7_addRule_57 : decode cX7_addRule 57 = .ok (.bipush 16, 2) := dk_16 (by decide +kernel)
theorem dX7_addRule_59 : decode cX7_addRule 59 = .ok (.invokestatic 83, 3) := dk_184 (by decide +kernel)
theorem dX7_addRule_62 : decode cX7_addRule 62 = .ok (.aload_n 0, 1) := dk_42 (by decide +kernel)
theorem dX7_addRule_63 : decode cX7_addRule 63 = .ok (.getfield 33, 3) := dk_180 (by decide +kernel)
theorem dX7_addRule_66 : decode cX7_addRule 66 = .ok (.aload_n 0, 1) := dk_42 (by decide +kernel)
theorem dX7_addRule_67 : decode cX7_addRule 67 = .ok (.getfield 62, 3) := dk_180 (by decide +kernel)
theorem dX7_addRule_70 : decode cX7_addRule 70 = .ok (.iload_n 1, 1) := dk_27 (by decide +kernel)
theorem dX7_addRule_71 : decode cX7_addRule 71 = .ok (.iconst 1, 1) := dk_4 (by decide +kernel)
theorem dX7_addRule_72 : decode cX7_addRule 72 = .ok (.if_icmp .ne 12, 3) := dk_160 (by decide +kernel)
theorem dX7_addRule_75 : decode cX7_addRule 75 = .ok (.iload_n 2, 1) := dk_28 (by decide +kernel)
theorem dX7_addRule_76 : decode cX7_addRule 76 = .ok (.iload 4, 2) := dk_21 (by decide +kernel)
theorem dX7_addRule_78 : decode cX7_addRule 78 = .ok (.invokestatic 89, 3) := dk_184 (by decide +kernel)
theorem dX7_addRule_81 : decode cX7_addRule 81 = .ok (.goto 20, 3) := dk_167 (by decide +kernel)
theorem dX7_addRule_84 : decode cX7_addRule 84 = .ok (.iload_n 1, 1) := dk_27 (by decide +kernel)
theorem dX7_addRule_85 : decode cX7_addRule 85 = .ok (.iconst 4, 1) := dk_7 (by decide +kernel)
theorem dX7_addRule_86 : decode cX7_addRule 86 = .ok (.if_icmp .ne 11, 3) := dk_160 (by decide +kernel)
theorem dX7_addRule_89 : decode cX7_addRule 89 = .ok (.iload_n 2, 1) := dk_28 (by decide +kernel)
theorem dX7_addRule_90 : decode cX7_addRule 90 = .ok (.iload_n 3, 1) := dk_29 (by decide +kernel)
theorem dX7_addRule_91 : decode cX7_addRule 91 = .ok (.invokestatic 89, 3) := dk_184 (by decide +kernel)
theorem dX7_addRule_94 : decode cX7_addRule 94 = .ok (.goto 7, 3) := dk_167 (by decide +kernel)
theorem dX7_addRule_97 : decode cX7_addRule 97 = .ok (.iload_n 2, 1) := dk_28 (by decide +kernel)
theorem dX7_addRule_98 : decode cX7_addRule 98 = .ok (.invokestatic 95, 3) := dk_184 (by decide +kernel)
theorem dX7_addRule_101 : decode cX7_addRule 101 = .ok (.iastore, 1) := dk_79 (by decide +kernel)
theorem dX7_addRule_102 : decode cX7_addRule 102 = .ok (.aload_n 0, 1) := dk_42 (by decide +kernel)
theorem dX7_addRule_103 : decode cX7_addRule 103 = .ok (.dup, 1) := dk_89 (by decide +kernel)
theorem dX7_addRule_104 : decode cX7_addRule 104 = .ok (.getfield 62, 3) := dk_180 (by decide +kernel)
theorem dX7_addRule_107 : decode cX7_addRule 107 = .ok (.iconst 1, 1) := dk_4 (by decide +kernel)
theorem dX7_addRule_108 : decode cX7_addRule 108 = .ok (.iadd, 1) := dk_96 (by decide +kernel)
theorem dX7_addRule_109 : decode cX7_addRule 109 = .ok (.putfield 62, 3) := dk_181 (by decide +kernel)
theorem dX7_addRule_112 : decode cX7_addRule 112 = .ok (.aload_n 0, 1) := dk_42 (by decide +kernel)
theorem dX7_addRule_113 : decode cX7_addRule 113 = .ok (.invokevirtual 65, 3) := dk_182 (by decide +kernel)
theorem dX7_addRule_116 : decode cX7_addRule 116 = .ok (.aload_n 0, 1) := dk_42 (by decide +kernel)
theorem dX7_addRule_117 : decode cX7_addRule 117 = .ok (.getfield 62, 3) := dk_180 (by decide +kernel)
theorem dX7_addRule_120 : decode cX7_addRule 120 = .ok (.iconst 1, 1) := dk_4 (by decide +kernel)
theorem dX7_addRule_121 : decode cX7_addRule 121 = .ok (.isub, 1) := dk_100 (by decide +kernel)
theorem dX7_addRule_122 : decode cX7_addRule 122 = .ok (.ireturn, 1) := dk_172 (by decide +kernel)
def wsMX7_addRule : List Cond := .code yX7_addRule cX7_addRule 5 (some .int) :: ([.fieldLink RX7 18 "OptimaWorks$ValueDesk" "kind" "[I", .fieldLink RX7 62 "OptimaWorks$ValueDesk" "rules" "I", .fieldLink RX7 21 "OptimaWorks$ValueDesk" "a" "[I", .fieldLink RX7 24 "OptimaWorks$ValueDesk" "b" "[I", .fieldLink RX7 27 "OptimaWorks$ValueDesk" "c" "[I", .fieldLink RX7 11 "OptimaWorks$ValueDesk" "pairs" "[I", .fieldLink RX7 30 "OptimaWorks$ValueDesk" "rulePairs" "[I", .methodLink RX7 83 arraycopyName, .native arraycopyName, .static arraycopyName, .initialized "java/lang/System", .fieldLink RX7 33 "OptimaWorks$ValueDesk" "lastHolder" "[I", .methodLink RX7 89 Lib.Math.max.name, .static Lib.Math.max.name, .initialized "java/lang/Math", .code Lib.Math.max.name Lib.Math.max.code 2 (some .int)] ++ wsX70 ++ (va_wsS RX7 95 yX7_highest wsMX7_highest) ++ (wsV RX7 65 RX7 yX7_change wsMX7_change))
theorem iwsMX7_addRule_in7 : ∀ w ∈ wsX70, w ∈ wsMX7_addRule := fun _ h => List.mem_cons_of_mem _ (List.mem_append_left _ (List.mem_append_left _ (List.mem_append_right _ h)))
theorem gwsMX7_addRule_0 : GoodIn wsMX7_addRule (va_wsS RX7 95 yX7_highest wsMX7_highest) := goodIn_sub (fun _ h => List.mem_cons_of_mem _ (List.mem_append_left _ (List.mem_append_right _ h))) (gdS (by decide +kernel) gdwsMX7_highest)
theorem gwsMX7_addRule_1 : GoodIn wsMX7_addRule (wsV RX7 65 RX7 yX7_change wsMX7_change) := goodIn_sub (fun _ h => List.mem_cons_of_mem _ (List.mem_append_right _ h)) (gdV (by decide +kernel) gdwsMX7_change)
theorem gdwsMX7_addRule : wsMX7_addRule.all goodWord = true := gdC rfl (gdA (gdA (gdA (by decide +kernel : ([.fieldLink RX7 18 "OptimaWorks$ValueDesk" "kind" "[I", .fieldLink RX7 62 "OptimaWorks$ValueDesk" "rules" "I", .fieldLink RX7 21 "OptimaWorks$ValueDesk" "a" "[I", .fieldLink RX7 24 "OptimaWorks$ValueDesk" "b" "[I", .fieldLink RX7 27 "OptimaWorks$ValueDesk" "c" "[I", .fieldLink RX7 11 "OptimaWorks$ValueDesk" "pairs" "[I", .fieldLink RX7 30 "OptimaWorks$ValueDesk" "rulePairs" "[I", .methodLink RX7 83 arraycopyName, .native arraycopyName, .static arraycopyName, .initialized "java/lang/System", .fieldLink RX7 33 "OptimaWorks$ValueDesk" "lastHolder" "[I", .methodLink RX7 89 Lib.Math.max.name, .static Lib.Math.max.name, .initialized "java/lang/Math", .code Lib.Math.max.name Lib.Math.max.code 2 (some .int)] : List Cond).all goodWord = true) gdwsX70) (gdS (by decide +kernel) gdwsMX7_highest)) (gdV (by decide +kernel) gdwsMX7_change))
theorem hm_m_X7_addRule_0 : (.fieldLink RX7 62 "OptimaWorks$ValueDesk" "rules" "I" : Cond) ∈ wsMX7_addRule := by decide +kernel
theorem hm_m_X7_addRule_1 : (.methodLink RX7 89 Lib.Math.max.name : Cond) ∈ wsMX7_addRule := by decide +kernel
theorem hm_m_X7_addRule_2 : (.static Lib.Math.max.name : Cond) ∈ wsMX7_addRule := by decide +kernel
theorem hm_m_X7_addRule_3 : (.initialized "java/lang/Math" : Cond) ∈ wsMX7_addRule := by decide +kernel
theorem hm_m_X7_addRule_4 : (.code Lib.Math.max.name Lib.Math.max.code 2 (some .int) : Cond) ∈ wsMX7_addRule := by decide +kernel
set_option maxHeartbeats 4000000 in
set_option maxRecDepth 100000 in
/-- a rule more -/
theorem m_X7_addRule (l : Launch) (dC : Nat → ClassId) (dI : Nat → Nat → Nat) (hV : Nat → Nat) (aV : Nat → Nat) (kV : Nat → ClassId) (iV_holders : Int32) (iV_rules : Int32) (fV_pairs : Nat → Int32) (fV_domain : Nat → Int32) (fV_kind : Nat → Int32) (fV_a : Nat → Int32) (fV_b : Nat → Int32) (fV_c : Nat → Int32) (fV_rulePairs : Nat → Int32) (fV_lastHolder : Nat → Int32) (fV_now : Nat → Int32) (iV_doneFor : Int32) (iV_changed : Int32) (gV_fore : Nat → Int64) (gV_back : Nat → Int64) (fV_together : Nat → Int32) (fV_member : Nat → Int32) (gV_list : Nat → Int64) (dV_list : Nat) (nV_list : Nat) (iV_listed : Int32) (iV_listDone : Int32) (p1 : Int32) (p2 : Int32) (p3 : Int32) (p4 : Int32) (b_iV_holders : 0 ≤ iV_holders.toInt ∧ iV_holders.toInt ≤ 10) (b_iV_rules : 0 ≤ iV_rules.toInt ∧ iV_rules.toInt ≤ 12) (b_fV_kind : ∀ q : Nat, 0 ≤ (fV_kind q).toInt ∧ (fV_kind q).toInt ≤ 4) (b_iV_changed : 0 ≤ iV_changed.toInt ∧ iV_changed.toInt ≤ 1) (b_fV_member : ∀ q : Nat, (-1) ≤ (fV_member q).toInt ∧ (fV_member q).toInt ≤ 15) (b_nV_list : 0 ≤ nV_list ∧ nV_list ≤ 20000) (b_iV_listed : (-1) ≤ iV_listed.toInt ∧ iV_listed.toInt ≤ 5000) (b_iV_listDone : 0 ≤ iV_listDone.toInt ∧ iV_listDone.toInt ≤ 1) (b_RuV : RuV fV_kind fV_a fV_b fV_c fV_lastHolder) (b_lst : iV_listed.toInt ≤ ((nV_list : Nat) : Int)) (b_p1 : 0 ≤ p1.toInt ∧ p1.toInt ≤ 4) (hlt : iV_rules.toInt < 12) (hRC : (p1.toInt = 1 → (0 ≤ p2.toInt ∧ p2.toInt ≤ 9) ∧ 0 ≤ p4.toInt ∧ p4.toInt ≤ 9) ∧ (p1.toInt = 4 → (0 ≤ p2.toInt ∧ p2.toInt ≤ 9) ∧ 0 ≤ p3.toInt ∧ p3.toInt ≤ 9)) (sz : Nat) : Met l yX7_addRule wsMX7_addRule ({ frames := 1, cells := 0, slots := 0, locals := 22 }) (va_Pc [.ref (hV 0), .int p1, .int p2, .int p3, .int p4] (fun U => U.heap.size = sz ∧ va_P (dC, dI) vwCl (WV hV aV kV iV_holders iV_rules fV_pairs fV_domain fV_kind fV_a fV_b fV_c fV_rulePairs fV_lastHolder fV_now iV_doneFor iV_changed gV_fore gV_back fV_together fV_member gV_list dV_list nV_list iV_listed iV_listDone) U.heap ∧ va_K (dC, dI) vwCl (tV kV) U ∧ va_D (fun _ => True) (WV hV aV kV iV_holders iV_rules fV_pairs fV_domain fV_kind fV_a fV_b fV_c fV_rulePairs fV_lastHolder fV_now iV_doneFor iV_changed gV_fore gV_back fV_together fV_member gV_list dV_list nV_list iV_listed iV_listDone))) (va_Qi (fun (r : Int32) (u : (Int32) × (Nat → Int32) × (Nat → Int32) × (Nat → Int32) × (Nat → Int32) × (Nat → Int32) × (Nat → Int32) × (Int32) × (Int32)) => (0 ≤ (u.1).toInt ∧ (u.1).toInt ≤ 12) ∧ (∀ q : Nat, 0 ≤ ((u.2.1) q).toInt ∧ ((u.2.1) q).toInt ≤ 4) ∧ (0 ≤ (u.2.2.2.2.2.2.2.2).toInt ∧ (u.2.2.2.2.2.2.2.2).toInt ≤ 1) ∧ (RuV (u.2.1) (u.2.2.1) (u.2.2.2.1) (u.2.2.2.2.1) (u.2.2.2.2.2.2.1)) ∧ ((u.1).toInt = iV_rules.toInt + 1) ∧ (r.toInt = iV_rules.toInt)) (fun (u : (Int32) × (Nat → Int32) × (Nat → Int32) × (Nat → Int32) × (Nat → Int32) × (Nat → Int32) × (Nat → Int32) × (Int32) × (Int32)) t => va_P (dC, dI) vwCl (WV hV aV kV iV_holders (u.1) fV_pairs fV_domain (u.2.1) (u.2.2.1) (u.2.2.2.1) (u.2.2.2.2.1) (u.2.2.2.2.2.1) (u.2.2.2.2.2.2.1) fV_now (u.2.2.2.2.2.2.2.1) iV_changed gV_fore gV_back fV_together fV_member gV_list dV_list nV_list iV_listed (u.2.2.2.2.2.2.2.2)) t.heap ∧ va_D (va_A (WV hV aV kV iV_holders iV_rules fV_pairs fV_domain fV_kind fV_a fV_b fV_c fV_rulePairs fV_lastHolder fV_now iV_doneFor iV_changed gV_fore gV_back fV_together fV_member gV_list dV_list nV_list iV_listed iV_listDone) sz) (WV hV aV kV iV_holders (u.1) fV_pairs fV_domain (u.2.1) (u.2.2.1) (u.2.2.2.1) (u.2.2.2.2.1) (u.2.2.2.2.2.1) (u.2.2.2.2.2.2.1) fV_now (u.2.2.2.2.2.2.2.1) iV_changed gV_fore gV_back fV_together fV_member gV_list dV_list nV_list iV_listed (u.2.2.2.2.2.2.2.2))) (va_A (WV hV aV kV iV_holders iV_rules fV_pairs fV_domain fV_kind fV_a fV_b fV_c fV_rulePairs fV_lastHolder fV_now iV_doneFor iV_changed gV_fore gV_back fV_together fV_member gV_list dV_list nV_list iV_listed iV_listDone) sz)) 0 0 (va_A (WV hV aV kV iV_holders iV_rules fV_pairs fV_domain fV_kind fV_a fV_b fV_c fV_rulePairs fV_lastHolder fV_now iV_doneFor iV_changed gV_fore gV_back fV_together fV_member gV_list dV_list nV_list iV_listed iV_listDone) sz) := by
  refine Met.ofW (cc := cX7_addRule) (maxL := 5) (ret := (some .int)) (by decide) rfl ?_
  intro p e s m args below meth c s₁ B hml hv
  obtain ⟨rfl, hsz, hP, hK, hD0⟩ := hv
  have hx := B.exec
  have hb := B.bytes
  have hr := B.returns
  have hts := atoms_spec (ws := wsMX7_addRule) B.pre
  have hown : s.vm.findClass RX7 = some m.cls := findClass_of_methodNamed B.named
  have hlocks := B.notSynchronized
  subst hsz
  have hD := hD0.self (sz := s.heap.size)
  generalize hAe : va_A (WV hV aV kV iV_holders iV_rules fV_pairs fV_domain fV_kind fV_a fV_b fV_c fV_rulePairs fV_lastHolder fV_now iV_doneFor iV_changed gV_fore gV_back fV_together fV_member gV_list dV_list nV_list iV_listed iV_listDone) s.heap.size = A at hD ⊢
  have hA : ∀ q : Nat, s.heap.size ≤ q → A q := fun q h => by rw [← hAe]; exact Or.inr h
  have hS : va_S A s.heap s.heap [] := va_S.rf
  have hl := lv_entry ([.ref (hV 0), .int p1, .int p2, .int p3, .int p4]) (n := 5) (Nat.le_of_ble_eq_true rfl)
  rw [lg_entry_eq]
  generalize (lg_sl ([.ref (hV 0), .int p1, .int p2, .int p3, .int p4]) ++ List.replicate (5 - (lg_sl ([.ref (hV 0), .int p1, .int p2, .int p3, .int p4])).length) Slot.unset).toArray = ls at hl ⊢
  have hl : lv_has ls 5 [(0, .ref (hV 0)), (1, .int p1), (2, .int p2), (3, .int p3), (4, .int p4)] := hl
  refine lv_aload_n hx hb dX7_addRule_0 rfl (lv_at hl 0 rfl) ?_
  refine va_get (D := (dC, dI)) (ci := 7) (v := .ref (aV 2)) (C := RX7) (T := TX7) (N := 20) hx hb hts iwsMX7_addRule_in7 hown hK hP 0 rfl rfl 4 (by decide) (hts (.fieldLink RX7 18 "OptimaWorks$ValueDesk" "kind" "[I") (by decide +kernel)) (fun _ h9 => h9) rfl dX7_addRule_1 ?_
  refine lv_aload_n hx hb dX7_addRule_4 rfl (lv_at hl 0 rfl) ?_
  refine va_get (D := (dC, dI)) (ci := 7) (v := .int iV_rules) (C := RX7) (T := TX7) (N := 20) hx hb hts iwsMX7_addRule_in7 hown hK hP 0 rfl rfl 1 (by decide) (hts _ hm_m_X7_addRule_0) (fun _ h9 => h9) rfl dX7_addRule_5 ?_
  refine lv_iload_n hx hb dX7_addRule_8 rfl (lv_at hl 1 rfl) ?_
  refine va_iast (cA := kV 2) (n := 12) (f := fV_kind) hx hb hK hP hD hS 3 2 rfl rfl (vp_in_iff.mpr ⟨b_iV_rules.1, (by omega)⟩) dX7_addRule_9 (fun H locs hP hD hS => ?_)
  obtain ⟨u1, hu1⟩ : ∃ f9, f9 = upd fV_kind (iV_rules).toNatClampNeg p1 := ⟨_, rfl⟩
  have hP : va_P (dC, dI) vwCl (WV hV aV kV iV_holders iV_rules fV_pairs fV_domain u1 fV_a fV_b fV_c fV_rulePairs fV_lastHolder fV_now iV_doneFor iV_changed gV_fore gV_back fV_together fV_member gV_list dV_list nV_list iV_listed iV_listDone) H := by rw [hu1]; exact hP
  have hD : va_D A (WV hV aV kV iV_holders iV_rules fV_pairs fV_domain u1 fV_a fV_b fV_c fV_rulePairs fV_lastHolder fV_now iV_doneFor iV_changed gV_fore gV_back fV_together fV_member gV_list dV_list nV_list iV_listed iV_listDone) := by rw [hu1]; exact hD
  have b_u1 : ∀ q : Nat, 0 ≤ (u1 q).toInt ∧ (u1 q).toInt ≤ 4 := by rw [hu1]; exact upd_r b_fV_kind (b_p1)
  have b1_u1 : u1 = upd fV_kind (iV_rules).toNatClampNeg p1 := hu1
  clear hu1
  refine lv_aload_n hx hb dX7_addRule_10 rfl (lv_at hl 0 rfl) ?_
  refine va_get (D := (dC, dI)) (ci := 7) (v := .ref (aV 3)) (C := RX7) (T := TX7) (N := 20) hx hb hts iwsMX7_addRule_in7 hown hK hP 0 rfl rfl 5 (by decide) (hts (.fieldLink RX7 21 "OptimaWorks$ValueDesk" "a" "[I") (by decide +kernel)) (fun _ h9 => h9) rfl dX7_addRule_11 ?_
  refine lv_aload_n hx hb dX7_addRule_14 rfl (lv_at hl 0 rfl) ?_
  refine va_get (D := (dC, dI)) (ci := 7) (v := .int iV_rules) (C := RX7) (T := TX7) (N := 20) hx hb hts iwsMX7_addRule_in7 hown hK hP 0 rfl rfl 1 (by decide) (hts _ hm_m_X7_addRule_0) (fun _ h9 => h9) rfl dX7_addRule_15 ?_
  refine lv_iload_n hx hb dX7_addRule_18 rfl (lv_at hl 2 rfl) ?_
  refine va_iast (cA := kV 3) (n := 12) (f := fV_a) hx hb hK hP hD hS 4 3 rfl rfl (vp_in_iff.mpr ⟨b_iV_rules.1, (by omega)⟩) dX7_addRule_19 (fun H locs hP hD hS => ?_)
  obtain ⟨u2, hu2⟩ : ∃ f9, f9 = upd fV_a (iV_rules).toNatClampNeg p2 := ⟨_, rfl⟩
  have hP : va_P (dC, dI) vwCl (WV hV aV kV iV_holders iV_rules fV_pairs fV_domain u1 u2 fV_b fV_c fV_rulePairs fV_lastHolder fV_now iV_doneFor iV_changed gV_fore gV_back fV_together fV_member gV_list dV_list nV_list iV_listed iV_listDone) H := by rw [hu2]; exact hP
  have hD : va_D A (WV hV aV kV iV_holders iV_rules fV_pairs fV_domain u1 u2 fV_b fV_c fV_rulePairs fV_lastHolder fV_now iV_doneFor iV_changed gV_fore gV_back fV_together fV_member gV_list dV_list nV_list iV_listed iV_listDone) := by rw [hu2]; exact hD
  have b_u2 : u2 = upd fV_a (iV_rules).toNatClampNeg p2 := hu2
  clear hu2
  refine lv_aload_n hx hb dX7_addRule_20 rfl (lv_at hl 0 rfl) ?_
  refine va_get (D := (dC, dI)) (ci := 7) (v := .ref (aV 4)) (C := RX7) (T := TX7) (N := 20) hx hb hts iwsMX7_addRule_in7 hown hK hP 0 rfl rfl 6 (by decide) (hts (.fieldLink RX7 24 "OptimaWorks$ValueDesk" "b" "[I") (by decide +kernel)) (fun _ h9 => h9) rfl dX7_addRule_21 ?_
  refine lv_aload_n hx hb dX7_addRule_24 rfl (lv_at hl 0 rfl) ?_
  refine va_get (D := (dC, dI)) (ci := 7) (v := .int iV_rules) (C := RX7) (T := TX7) (N := 20) hx hb hts iwsMX7_addRule_in7 hown hK hP 0 rfl rfl 1 (by decide) (hts _ hm_m_X7_addRule_0) (fun _ h9 => h9) rfl dX7_addRule_25 ?_
  refine lv_iload_n hx hb dX7_addRule_28 rfl (lv_at hl 3 rfl) ?_
  refine va_iast (cA := kV 4) (n := 12) (f := fV_b) hx hb hK hP hD hS 5 4 rfl rfl (vp_in_iff.mpr ⟨b_iV_rules.1, (by omega)⟩) dX7_addRule_29 (fun H locs hP hD hS => ?_)
  obtain ⟨u3, hu3⟩ : ∃ f9, f9 = upd fV_b (iV_rules).toNatClampNeg p3 := ⟨_, rfl⟩
  have hP : va_P (dC, dI) vwCl (WV hV aV kV iV_holders iV_rules fV_pairs fV_domain u1 u2 u3 fV_c fV_rulePairs fV_lastHolder fV_now iV_doneFor iV_changed gV_fore gV_back fV_together fV_member gV_list dV_list nV_list iV_listed iV_listDone) H := by rw [hu3]; exact hP
  have hD : va_D A (WV hV aV kV iV_holders iV_rules fV_pairs fV_domain u1 u2 u3 fV_c fV_rulePairs fV_lastHolder fV_now iV_doneFor iV_changed gV_fore gV_back fV_together fV_member gV_list dV_list nV_list iV_listed iV_listDone) := by rw [hu3]; exact hD
  have b_u3 : u3 = upd fV_b (iV_rules).toNatClampNeg p3 := hu3
  clear hu3
  refine lv_aload_n hx hb dX7_addRule_30 rfl (lv_at hl 0 rfl) ?_
  refine va_get (D := (dC, dI)) (ci := 7) (v := .ref (aV 5)) (C := RX7) (T := TX7) (N := 20) hx hb hts iwsMX7_addRule_in7 hown hK hP 0 rfl rfl 7 (by decide) (hts (.fieldLink RX7 27 "OptimaWorks$ValueDesk" "c" "[I") (by decide +kernel)) (fun _ h9 => h9) rfl dX7_addRule_31 ?_
  refine lv_aload_n hx hb dX7_addRule_34 rfl (lv_at hl 0 rfl) ?_
  refine va_get (D := (dC, dI)) (ci := 7) (v := .int iV_rules) (C := RX7) (T := TX7) (N := 20) hx hb hts iwsMX7_addRule_in7 hown hK hP 0 rfl rfl 1 (by decide) (hts _ hm_m_X7_addRule_0) (fun _ h9 => h9) rfl dX7_addRule_35 ?_
  refine lv_iload hx hb dX7_addRule_38 (lv_at hl 4 rfl) ?_
  refine va_iast (cA := kV 5) (n := 12) (f := fV_c) hx hb hK hP hD hS 6 5 rfl rfl (vp_in_iff.mpr ⟨b_iV_rules.1, (by omega)⟩) dX7_addRule_40 (fun H locs hP hD hS => ?_)
  obtain ⟨u4, hu4⟩ : ∃ f9, f9 = upd fV_c (iV_rules).toNatClampNeg p4 := ⟨_, rfl⟩
  have hP : va_P (dC, dI) vwCl (WV hV aV kV iV_holders iV_rules fV_pairs fV_domain u1 u2 u3 u4 fV_rulePairs fV_lastHolder fV_now iV_doneFor iV_changed gV_fore gV_back fV_together fV_member gV_list dV_list nV_list iV_listed iV_listDone) H := by rw [hu4]; exact hP
  have hD : va_D A (WV hV aV kV iV_holders iV_rules fV_pairs fV_domain u1 u2 u3 u4 fV_rulePairs fV_lastHolder fV_now iV_doneFor iV_changed gV_fore gV_back fV_together fV_member gV_list dV_list nV_list iV_listed iV_listDone) := by rw [hu4]; exact hD
  have b_u4 : u4 = upd fV_c (iV_rules).toNatClampNeg p4 := hu4
  clear hu4
  refine lv_aload_n hx hb dX7_addRule_41 rfl (lv_at hl 0 rfl) ?_
  refine va_get (D := (dC, dI)) (ci := 7) (v := .ref (aV 0)) (C := RX7) (T := TX7) (N := 20) hx hb hts iwsMX7_addRule_in7 hown hK hP 0 rfl rfl 2 (by decide) (hts (.fieldLink RX7 11 "OptimaWorks$ValueDesk" "pairs" "[I") (by decide +kernel)) (fun _ h9 => h9) rfl dX7_addRule_42 ?_
  refine lv_iconst (v := 0) hx hb dX7_addRule_45 (by decide) ?_
  refine lv_aload_n hx hb dX7_addRule_46 rfl (lv_at hl 0 rfl) ?_
  refine va_get (D := (dC, dI)) (ci := 7) (v := .ref (aV 6)) (C := RX7) (T := TX7) (N := 20) hx hb hts iwsMX7_addRule_in7 hown hK hP 0 rfl rfl 8 (by decide) (hts (.fieldLink RX7 30 "OptimaWorks$ValueDesk" "rulePairs" "[I") (by decide +kernel)) (fun _ h9 => h9) rfl dX7_addRule_47 ?_
  refine lv_aload_n hx hb dX7_addRule_50 rfl (lv_at hl 0 rfl) ?_
  refine va_get (D := (dC, dI)) (ci := 7) (v := .int iV_rules) (C := RX7) (T := TX7) (N := 20) hx hb hts iwsMX7_addRule_in7 hown hK hP 0 rfl rfl 1 (by decide) (hts _ hm_m_X7_addRule_0) (fun _ h9 => h9) rfl dX7_addRule_51 ?_
  refine lv_bipush (v := 16) hx hb dX7_addRule_54 (by decide) ?_
  refine lv_imul hx hb dX7_addRule_56 ?_
  refine lv_topi (fun y5 hy5 => ?_)
  obtain rfl : (iI (iV_rules.toInt * 16)) = y5 := (hy5.trans (iI_mul2 (iI_of _) (by decide : (16 : Int32) = iI 16))).symm
  refine lv_bipush (v := 16) hx hb dX7_addRule_57 (by decide) ?_
  refine va_copyi hx hb (by rw [hml]; exact hl.1.symm) hown (hts (.methodLink RX7 83 arraycopyName) (by decide +kernel)) (hts (.native arraycopyName) (by decide +kernel)) (hts (.static arraycopyName) (by decide +kernel)) (hts (.initialized "java/lang/System") (by decide +kernel)) hK hP hD hS 1 7 0 6 rfl rfl rfl rfl rfl (by decide) (nn_i (iI_t (Int.le_trans (by decide) (Int.mul_le_mul_of_nonneg_right (b_iV_rules.1) (by decide))) (Int.le_trans (Int.mul_le_mul_of_nonneg_right (b_iV_rules.2) (by decide)) (by decide))) (by omega)) (by decide) (cp_fit (by decide : (0 : Int32).toInt = 0) (by decide : (16 : Int32).toInt = 16) (by omega) (by omega) (by omega)) (cp_fit (iI_t (Int.le_trans (by decide) (Int.mul_le_mul_of_nonneg_right (b_iV_rules.1) (by decide))) (Int.le_trans (Int.mul_le_mul_of_nonneg_right (b_iV_rules.2) (by decide)) (by decide))) (by decide : (16 : Int32).toInt = 16) (by omega) (by omega) (by omega)) (fun i9 h9 => rfl) (by decide +kernel) (Nat.le_of_ble_eq_true rfl) dX7_addRule_59 (fun H locs hP hD hS => ?_)
  obtain ⟨u6, hu6⟩ : ∃ f9, f9 = va_cpy fV_pairs fV_rulePairs (0 : Int32).toNatClampNeg ((iI (iV_rules.toInt * 16))).toNatClampNeg (16 : Int32).toNatClampNeg := ⟨_, rfl⟩
  have hP : va_P (dC, dI) vwCl (WV hV aV kV iV_holders iV_rules fV_pairs fV_domain u1 u2 u3 u4 u6 fV_lastHolder fV_now iV_doneFor iV_changed gV_fore gV_back fV_together fV_member gV_list dV_list nV_list iV_listed iV_listDone) H := by rw [hu6]; exact hP
  have hD : va_D A (WV hV aV kV iV_holders iV_rules fV_pairs fV_domain u1 u2 u3 u4 u6 fV_lastHolder fV_now iV_doneFor iV_changed gV_fore gV_back fV_together fV_member gV_list dV_list nV_list iV_listed iV_listDone) := by rw [hu6]; exact hD
  clear hu6
  refine lv_aload_n hx hb dX7_addRule_62 rfl (lv_at hl 0 rfl) ?_
  refine va_get (D := (dC, dI)) (ci := 7) (v := .ref (aV 7)) (C := RX7) (T := TX7) (N := 20) hx hb hts iwsMX7_addRule_in7 hown hK hP 0 rfl rfl 9 (by decide) (hts (.fieldLink RX7 33 "OptimaWorks$ValueDesk" "lastHolder" "[I") (by decide +kernel)) (fun _ h9 => h9) rfl dX7_addRule_63 ?_
  refine lv_aload_n hx hb dX7_addRule_66 rfl (lv_at hl 0 rfl) ?_
  refine va_get (D := (dC, dI)) (ci := 7) (v := .int iV_rules) (C := RX7) (T := TX7) (N := 20) hx hb hts iwsMX7_addRule_in7 hown hK hP 0 rfl rfl 1 (by decide) (hts _ hm_m_X7_addRule_0) (fun _ h9 => h9) rfl dX7_addRule_67 ?_
  refine lv_iload_n hx hb dX7_addRule_70 rfl (lv_at hl 1 rfl) ?_
  refine lv_iconst (v := 1) hx hb dX7_addRule_71 (by decide) ?_
  refine W.cut (pc := 101) (fun H locs ls stk => ∃ (k0_j2 : Int32), (p1.toInt = 4 → p2.toInt ≤ k0_j2.toInt ∧ p3.toInt ≤ k0_j2.toInt) ∧  stk = [.int k0_j2, .int iV_rules, .ref (aV 7)] ∧ va_P (dC, dI) vwCl (WV hV aV kV iV_holders iV_rules fV_pairs fV_domain u1 u2 u3 u4 u6 fV_lastHolder fV_now iV_doneFor iV_changed gV_fore gV_back fV_together fV_member gV_list dV_list nV_list iV_listed iV_listDone) H ∧ va_D A (WV hV aV kV iV_holders iV_rules fV_pairs fV_domain u1 u2 u3 u4 u6 fV_lastHolder fV_now iV_doneFor iV_changed gV_fore gV_back fV_together fV_member gV_list dV_list nV_list iV_listed iV_listDone) ∧ va_S A s.heap H locs ∧ lv_has ls 5 [(0, .ref (hV 0)), (1, .int p1), (2, .int p2), (3, .int p3), (4, .int p4)]) (fun join2 => ?_) ?_
  · refine lv_icmp_ne (tgt := 84) hx hb dX7_addRule_72 (by decide) (fun c_72 => ?_) (fun c_72 => ?_)
    · have t_72 : p1.toInt ≠ 1 := toI_ne c_72 rfl (by decide : (1 : Int32).toInt = 1)
      refine lv_iload_n hx hb dX7_addRule_84 rfl (lv_at hl 1 rfl) ?_
      refine lv_iconst (v := 4) hx hb dX7_addRule_85 (by decide) ?_
      refine lv_icmp_ne (tgt := 97) hx hb dX7_addRule_86 (by decide) (fun c_86 => ?_) (fun c_86 => ?_)
      · have t_86 : p1.toInt ≠ 4 := toI_ne c_86 rfl (by decide : (4 : Int32).toInt = 4)
        refine lv_iload_n hx hb dX7_addRule_97 rfl (lv_at hl 2 rfl) ?_
        have hFc := noneFree hS hA
        refine va_calli (va_runS (As := [.int p2]) (rest := [.int iV_rules, .ref (aV 7)]) ⟨hx, hb, hml, hown, hts⟩ (m_X7_highest l dC dI p2 H.size) (va_cwS 1 hts gwsMX7_addRule_0 rfl rfl rfl (by decide +kernel) ⟨by decide +kernel, by decide +kernel⟩) ⟨fun a U g mk q => by obtain ⟨q0, q1, qP, qK, qD⟩ := q; exact ⟨q0, q1, qP, va_K.moved (u := U) (U := U.calling g mk a) (Vm.Alike.refl U.vm) qK, qD⟩, fun U hU9 hW => ⟨rfl, by rw [hU9], by rw [hU9]; exact nilP, va_K.moved hW.alike (hK.sub (tys' := []) [] rfl), nilD⟩⟩ rfl rfl hl.1 rfl (lv_room (Nat.le_of_ble_eq_true rfl)) dX7_addRule_98 (by decide +kernel)) hS (fun q _ h => hFc q h) hFc (fun r10 u t9_ H1 locs ht hvm hw9 hB9 hz1 hk1 hS => ?_)
        have b_r10 := hw9
        try dsimp only at b_r10
        clear hB9
        have hP := keepAll hP hk1
        generalize H1 = H at hP hS ⊢
        have hP : va_P (dC, dI) vwCl (WV hV aV kV iV_holders iV_rules fV_pairs fV_domain u1 u2 u3 u4 u6 fV_lastHolder fV_now iV_doneFor iV_changed gV_fore gV_back fV_together fV_member gV_list dV_list nV_list iV_listed iV_listDone) H := hP
        have hD := fz_sd hP (hD) rfl
        have hl : lv_has _ _ ([(0, .ref (hV 0)), (1, .int p1), (2, .int p2), (3, .int p3), (4, .int p4)]) := lv_sub hl [0, 1, 2, 3, 4] rfl
        exact join2 _ _ _ _ ⟨r10, (show p1.toInt = 4 → p2.toInt ≤ r10.toInt ∧ p3.toInt ≤ r10.toInt from by intro h9; omega), rfl, hP, hD, hS, hl⟩
      · have t_86 : p1.toInt = 4 := toI_nne c_86 rfl (by decide : (4 : Int32).toInt = 4)
        refine lv_iload_n hx hb dX7_addRule_89 rfl (lv_at hl 2 rfl) ?_
        refine lv_iload_n hx hb dX7_addRule_90 rfl (lv_at hl 3 rfl) ?_
        refine va_mmax hx hb (by rw [hml]; exact hl.1.symm) hown (hts _ hm_m_X7_addRule_1) (hts _ hm_m_X7_addRule_2) (hts _ hm_m_X7_addRule_3) (hts _ hm_m_X7_addRule_4) (by decide +kernel) (Nat.le_of_ble_eq_true rfl) (by decide +kernel) (by decide +kernel) dX7_addRule_91 ?_
        refine lv_topi (fun v11 hv11 => ?_)
        have b_v11 : (p2.toInt ≤ v11.toInt ∧ p3.toInt ≤ v11.toInt) ∧ (v11.toInt = p2.toInt ∨ v11.toInt = p3.toInt) := by rw [hv11]; exact max_t rfl rfl
        clear hv11
        refine lv_goto (tgt := 101) hx hb dX7_addRule_94 (by decide) ?_
        have hl : lv_has _ _ ([(0, .ref (hV 0)), (1, .int p1), (2, .int p2), (3, .int p3), (4, .int p4)]) := lv_sub hl [0, 1, 2, 3, 4] rfl
        exact join2 _ _ _ _ ⟨v11, (show p1.toInt = 4 → p2.toInt ≤ v11.toInt ∧ p3.toInt ≤ v11.toInt from by intro h9; omega), rfl, hP, hD, hS, hl⟩
    · have t_72 : p1.toInt = 1 := toI_nne c_72 rfl (by decide : (1 : Int32).toInt = 1)
      refine lv_iload_n hx hb dX7_addRule_75 rfl (lv_at hl 2 rfl) ?_
      refine lv_iload hx hb dX7_addRule_76 (lv_at hl 4 rfl) ?_
      refine va_mmax hx hb (by rw [hml]; exact hl.1.symm) hown (hts _ hm_m_X7_addRule_1) (hts _ hm_m_X7_addRule_2) (hts _ hm_m_X7_addRule_3) (hts _ hm_m_X7_addRule_4) (by decide +kernel) (Nat.le_of_ble_eq_true rfl) (by decide +kernel) (by decide +kernel) dX7_addRule_78 ?_
      refine lv_topi (fun v12 hv12 => ?_)
      have b_v12 : (p2.toInt ≤ v12.toInt ∧ p4.toInt ≤ v12.toInt) ∧ (v12.toInt = p2.toInt ∨ v12.toInt = p4.toInt) := by rw [hv12]; exact max_t rfl rfl
      clear hv12
      refine lv_goto (tgt := 101) hx hb dX7_addRule_81 (by decide) ?_
      have hl : lv_has _ _ ([(0, .ref (hV 0)), (1, .int p1), (2, .int p2), (3, .int p3), (4, .int p4)]) := lv_sub hl [0, 1, 2, 3, 4] rfl
      exact join2 _ _ _ _ ⟨v12, (show p1.toInt = 4 → p2.toInt ≤ v12.toInt ∧ p3.toInt ≤ v12.toInt from by intro h9; omega), rfl, hP, hD, hS, hl⟩
  · rintro H locs ls stk ⟨k0_j2, hm, rfl, hP, hD, hS, hl⟩
    refine va_iast (cA := kV 7) (n := 12) (f := fV_lastHolder) hx hb hK hP hD hS 8 7 rfl rfl (vp_in_iff.mpr ⟨b_iV_rules.1, (by omega)⟩) dX7_addRule_101 (fun H locs hP hD hS => ?_)
    obtain ⟨u13, hu13⟩ : ∃ f9, f9 = upd fV_lastHolder (iV_rules).toNatClampNeg k0_j2 := ⟨_, rfl⟩
    have hP : va_P (dC, dI) vwCl (WV hV aV kV iV_holders iV_rules fV_pairs fV_domain u1 u2 u3 u4 u6 u13 fV_now iV_doneFor iV_changed gV_fore gV_back fV_together fV_member gV_list dV_list nV_list iV_listed iV_listDone) H := by rw [hu13]; exact hP
    have hD : va_D A (WV hV aV kV iV_holders iV_rules fV_pairs fV_domain u1 u2 u3 u4 u6 u13 fV_now iV_doneFor iV_changed gV_fore gV_back fV_together fV_member gV_list dV_list nV_list iV_listed iV_listDone) := by rw [hu13]; exact hD
    have b_u13 : u13 = upd fV_lastHolder (iV_rules).toNatClampNeg k0_j2 := hu13
    clear hu13
    refine lv_aload_n hx hb dX7_addRule_102 rfl (lv_at hl 0 rfl) ?_
    refine lv_dup hx hb dX7_addRule_103 rfl ?_
    refine va_get (D := (dC, dI)) (ci := 7) (v := .int iV_rules) (C := RX7) (T := TX7) (N := 20) hx hb hts iwsMX7_addRule_in7 hown hK hP 0 rfl rfl 1 (by decide) (hts _ hm_m_X7_addRule_0) (fun _ h9 => h9) rfl dX7_addRule_104 ?_
    refine lv_iconst (v := 1) hx hb dX7_addRule_107 (by decide) ?_
    refine lv_iadd hx hb dX7_addRule_108 ?_
    refine lv_topi (fun y14 hy14 => ?_)
    obtain rfl : (iI (iV_rules.toInt + 1)) = y14 := (hy14.trans (iI_add2 (iI_of _) (by decide : (1 : Int32) = iI 1))).symm
    refine va_put (D := (dC, dI)) (ci := 7) (v := .int (iI (iV_rules.toInt + 1))) (ty := .int) (C := RX7) (T := TX7) (N := 20) hx hb hts iwsMX7_addRule_in7 tyX7 tyX7_ok nmX7 hown hK hP hD hS 0 rfl rfl 1 (by decide) (hts _ hm_m_X7_addRule_0) (fun _ h9 => h9) rfl (by decide +kernel) rfl rfl (Nat.le_of_ble_eq_true rfl) dX7_addRule_109 (fun H locs hP hD hS => ?_)
    have hP : va_P (dC, dI) vwCl (WV hV aV kV iV_holders (iI (iV_rules.toInt + 1)) fV_pairs fV_domain u1 u2 u3 u4 u6 u13 fV_now iV_doneFor iV_changed gV_fore gV_back fV_together fV_member gV_list dV_list nV_list iV_listed iV_listDone) H := hP
    have hD := fz_sd hP (hD) rfl
    refine lv_aload_n hx hb dX7_addRule_112 rfl (lv_at hl 0 rfl) ?_
    have hFc := allFree hD hS hA
    refine va_callv (va_runV (As := []) (rest := []) ⟨hx, hb, hml, hown, hts⟩ (m_X7_change l dC dI hV aV kV iV_holders (iI (iV_rules.toInt + 1)) fV_pairs fV_domain u1 u2 u3 u4 u6 u13 fV_now iV_doneFor iV_changed gV_fore gV_back fV_together fV_member gV_list dV_list nV_list iV_listed iV_listDone (b_iV_holders) (iI_rng (Int.le_trans (by decide) (Int.add_le_add (b_iV_rules.1) (Int.le_refl _))) (by omega) (by decide) (by decide)) b_u1 (b_iV_changed) b_fV_member (by first | exact b_nV_list | with_reducible assumption | exact ⟨by omega, by omega⟩ | assumption) (b_iV_listed) (b_iV_listDone) (RuV.set b_RuV (by assumption) (by assumption) (by assumption) (by assumption) (by assumption) ⟨hRC.1, fun h9 => ⟨(hRC.2 h9).1, (hRC.2 h9).2, hm h9⟩⟩) (by first | with_reducible assumption | omega | assumption) H.size) (cwV 0 hts gwsMX7_addRule_1 rfl rfl rfl hd_yX7_change_RX7 (by decide +kernel)) (fz_pre (va_recv hK hP (ci := 7) (q0 := 0) rfl rfl) hP hK hD) rfl rfl hl.1 rfl (lv_room (Nat.le_of_ble_eq_true rfl)) dX7_addRule_113 (by decide +kernel)) hS (fun q _ h => hFc q h) hFc (fun u t9_ H locs ht hvm hw9 hB9 hz1 hk1 hS => ?_)
    revert u hw9 hB9
    refine fz_p2 ?_
    intro iV_doneFor_15 iV_listDone_15 hw9 hB9
    try dsimp only at hw9 hB9
    have b_iV_listDone_15 := hw9
    try dsimp only at b_iV_listDone_15
    have hP : va_P (dC, dI) vwCl (WV hV aV kV iV_holders (iI (iV_rules.toInt + 1)) fV_pairs fV_domain u1 u2 u3 u4 u6 u13 fV_now iV_doneFor_15 iV_changed gV_fore gV_back fV_together fV_member gV_list dV_list nV_list iV_listed iV_listDone_15) H := fz_P ht hB9.1
    have hD := fz_sd hP (hB9.2.weaken (fun _ q _ h => hFc q.1 h)) rfl
    refine lv_aload_n hx hb dX7_addRule_116 rfl (lv_at hl 0 rfl) ?_
    refine va_get (D := (dC, dI)) (ci := 7) (v := .int (iI (iV_rules.toInt + 1))) (C := RX7) (T := TX7) (N := 20) hx hb hts iwsMX7_addRule_in7 hown hK hP 0 rfl rfl 1 (by decide) (hts _ hm_m_X7_addRule_0) (fun _ h9 => h9) rfl dX7_addRule_117 ?_
    refine lv_iconst (v := 1) hx hb dX7_addRule_120 (by decide) ?_
    refine lv_isub hx hb dX7_addRule_121 ?_
    refine lv_topi (fun y16 hy16 => ?_)
    obtain rfl : (iI ((iV_rules.toInt + 1) - 1)) = y16 := (hy16.trans (iI_sub2 rfl (by decide : (1 : Int32) = iI 1))).symm
    refine W.widen (k := 0) (n := 0) (by decide +kernel) (by decide +kernel) ?_
    exact W.iret (v := (iI ((iV_rules.toInt + 1) - 1))) hx hb hr (fun t9_ ht hW => ⟨⟨(iI ((iV_rules.toInt + 1) - 1)), ((iI (iV_rules.toInt + 1)), u1, u2, u3, u4, u6, u13, iV_doneFor_15, iV_listDone_15), rfl, ⟨(by (try dsimp only); exact (iI_rng (Int.le_trans (by decide) (Int.add_le_add (b_iV_rules.1) (Int.le_refl _))) (by omega) (by decide) (by decide))), b_u1, (by (try dsimp only); exact (by first | exact b_iV_listDone_15 | with_reducible assumption | exact ⟨by omega, by omega⟩ | assumption)), (by (try dsimp only); exact (RuV.set b_RuV (by assumption) (by assumption) (by assumption) (by assumption) (by assumption) ⟨hRC.1, fun h9 => ⟨(hRC.2 h9).1, (hRC.2 h9).2, hm h9⟩⟩)), (by (try dsimp only); first | (rw [iI_t (by omega) (by omega)] <;> omega) | omega), (by (try dsimp only); first | (rw [iI_t (by omega) (by omega)] <;> omega) | omega)⟩, by rw [ht]; exact hP, hD⟩, hS.F ht⟩) hS.2.2 dX7_addRule_122
theorem dX7_isAnyEmpty_0 : decode cX7_isAnyEmpty 0 = .ok (.iconst 0, 1) := dk_3 (by decide +kernel)
theorem dX7_isAnyEmpty_1 : decode cX7_isAnyEmpty 1 = .ok (.istore_n 1, 1) := dk_60 (by decide +kernel)
theorem dX7_isAnyEmpty_2 : decode cX7_isAnyEmpty 2 = .ok (.iload_n 1, 1) := dk_27 (by decide +kernel)
theorem dX7_isAnyEmpty_3 : decode cX7_isAnyEmpty 3 = .ok (.aload_n 0, 1) := dk_42 (by decide +kernel)
theorem dX7_isAnyEmpty_4 : decode cX7_isAnyEmpty 4 = .ok (.getfield 59, 3) := dk_180 (by decide +kernel)
theorem dX7_isAnyEmpty_7 : decode cX7_isAnyEmpty 7 = .ok (.if_icmp .ge 20, 3) := dk_162 (by decide +kernel)
theorem dX7_isAnyEmpty_10 : decode cX7_isAnyEmpty 10 = .ok (.aload_n 0, 1) := dk_42 (by decide +kernel)
theorem dX7_isAnyEmpty_11 : decode cX7_isAnyEmpty 11 = .ok (.getfield 36, 3) := dk_180 (by decide +kernel)
theorem dX7_isAnyEmpty_14 : decode cX7_isAnyEmpty 14 = .ok (.iload_n 1, 1) := dk_27 (by decide +kernel)
theorem dX7_isAnyEmpty_15 : decode cX7_isAnyEmpty 15 = .ok (.iaload, 1) := dk_46 (by decide +kernel)
theorem dX7_isAnyEmpty_16 : decode cX7_isAnyEmpty 16 = .ok (.ifCond .ne 5, 3) := dk_154 (by decide +kernel)
theorem dX7_isAnyEmpty_19 : decode cX7_isAnyEmpty 19 = .ok (.iconst 1, 1) := dk_4 (by decide +kernel)
theorem dX7_isAnyEmpty_20 : decode cX7_isAnyEmpty 20 = .ok (.ireturn, 1) := dk_172 (by decide +kernel)
theorem dX7_isAnyEmpty_21 : decode cX7_isAnyEmpty 21 = .ok (.iinc 1 1, 3) := dk_132 (by decide +kernel)
theorem dX7_isAnyEmpty_24 : decode cX7_isAnyEmpty 24 = .ok (.goto (-22), 3) := dk_167 (by decide +kernel)
theorem dX7_isAnyEmpty_27 : decode cX7_isAnyEmpty 27 = .ok (.iconst 0, 1) := dk_3 (by decide +kernel)
theorem dX7_isAnyEmpty_28 : decode cX7_isAnyEmpty 28 = .ok (.ireturn, 1) := dk_172 (by decide +kernel)
def wsMX7_isAnyEmpty : List Cond := .code yX7_isAnyEmpty cX7_isAnyEmpty 2 (some .boolean) :: ([.fieldLink RX7 59 "OptimaWorks$ValueDesk" "holders" "I", .fieldLink RX7 36 "OptimaWorks$ValueDesk" "now" "[I"] ++ wsX70)
theorem iwsMX7_isAnyEmpty_in7 : ∀ w ∈ wsX70, w ∈ wsMX7_isAnyEmpty := fun _ h => List.mem_cons_of_mem _ (List.mem_append_right _ h)
theorem gdwsMX7_isAnyEmpty : wsMX7_isAnyEmpty.all goodWord = true := gdC rfl (gdA (by decide +kernel : ([.fieldLink RX7 59 "OptimaWorks$ValueDesk" "holders" "I", .fieldLink RX7 36 "OptimaWorks$ValueDesk" "now" "[I"] : List Cond).all goodWord = true) gdwsX70)
set_option maxHeartbeats 4000000 in
set_option maxRecDepth 100000 in
/-- is nothing left somewhere -/
theorem m_X7_isAnyEmpty (l : Launch) (dC : Nat → ClassId) (dI : Nat → Nat → Nat) (hV : Nat → Nat) (aV : Nat → Nat) (kV : Nat → ClassId) (iV_holders : Int32) (iV_rules : Int32) (fV_pairs : Nat → Int32) (fV_domain : Nat → Int32) (fV_kind : Nat → Int32) (fV_a : Nat → Int32) (fV_b : Nat → Int32) (fV_c : Nat → Int32) (fV_rulePairs : Nat → Int32) (fV_lastHolder : Nat → Int32) (fV_now : Nat → Int32) (iV_doneFor : Int32) (iV_changed : Int32) (gV_fore : Nat → Int64) (gV_back : Nat → Int64) (fV_together : Nat → Int32) (fV_member : Nat → Int32) (gV_list : Nat → Int64) (dV_list : Nat) (nV_list : Nat) (iV_listed : Int32) (iV_listDone : Int32) (b_iV_holders : 0 ≤ iV_holders.toInt ∧ iV_holders.toInt ≤ 10) (b_iV_rules : 0 ≤ iV_rules.toInt ∧ iV_rules.toInt ≤ 12) (b_fV_kind : ∀ q : Nat, 0 ≤ (fV_kind q).toInt ∧ (fV_kind q).toInt ≤ 4) (b_iV_changed : 0 ≤ iV_changed.toInt ∧ iV_changed.toInt ≤ 1) (b_fV_member : ∀ q : Nat, (-1) ≤ (fV_member q).toInt ∧ (fV_member q).toInt ≤ 15) (b_nV_list : 0 ≤ nV_list ∧ nV_list ≤ 20000) (b_iV_listed : (-1) ≤ iV_listed.toInt ∧ iV_listed.toInt ≤ 5000) (b_iV_listDone : 0 ≤ iV_listDone.toInt ∧ iV_listDone.toInt ≤ 1) (b_RuV : RuV fV_kind fV_a fV_b fV_c fV_lastHolder) (b_lst : iV_listed.toInt ≤ ((nV_list : Nat) : Int)) (sz : Nat) : Met l yX7_isAnyEmpty wsMX7_isAnyEmpty ({ frames := 0, cells := 0, slots := 0, locals := 0 }) (va_Pc [.ref (hV 0)] (fun U => U.heap.size = sz ∧ va_P (dC, dI) vwCl (WV hV aV kV iV_holders iV_rules fV_pairs fV_domain fV_kind fV_a fV_b fV_c fV_rulePairs fV_lastHolder fV_now iV_doneFor iV_changed gV_fore gV_back fV_together fV_member gV_list dV_list nV_list iV_listed iV_listDone) U.heap ∧ va_K (dC, dI) vwCl (tV kV) U ∧ va_D (fun _ => True) (WV hV aV kV iV_holders iV_rules fV_pairs fV_domain fV_kind fV_a fV_b fV_c fV_rulePairs fV_lastHolder fV_now iV_doneFor iV_changed gV_fore gV_back fV_together fV_member gV_list dV_list nV_list iV_listed iV_listDone))) (va_Qi (fun (r : Int32) (u : Unit) => (0 ≤ r.toInt ∧ r.toInt ≤ 1)) (fun (u : Unit) t => va_P (dC, dI) vwCl (WV hV aV kV iV_holders iV_rules fV_pairs fV_domain fV_kind fV_a fV_b fV_c fV_rulePairs fV_lastHolder fV_now iV_doneFor iV_changed gV_fore gV_back fV_together fV_member gV_list dV_list nV_list iV_listed iV_listDone) t.heap ∧ va_D (va_A (WV hV aV kV iV_holders iV_rules fV_pairs fV_domain fV_kind fV_a fV_b fV_c fV_rulePairs fV_lastHolder fV_now iV_doneFor iV_changed gV_fore gV_back fV_together fV_member gV_list dV_list nV_list iV_listed iV_listDone) sz) (WV hV aV kV iV_holders iV_rules fV_pairs fV_domain fV_kind fV_a fV_b fV_c fV_rulePairs fV_lastHolder fV_now iV_doneFor iV_changed gV_fore gV_back fV_together fV_member gV_list dV_list nV_list iV_listed iV_listDone)) (va_A (WV hV aV kV iV_holders iV_rules fV_pairs fV_domain fV_kind fV_a fV_b fV_c fV_rulePairs fV_lastHolder fV_now iV_doneFor iV_changed gV_fore gV_back fV_together fV_member gV_list dV_list nV_list iV_listed iV_listDone) sz)) 0 0 (va_A (WV hV aV kV iV_holders iV_rules fV_pairs fV_domain fV_kind fV_a fV_b fV_c fV_rulePairs fV_lastHolder fV_now iV_doneFor iV_changed gV_fore gV_back fV_together fV_member gV_list dV_list nV_list iV_listed iV_listDone) sz) := by
  refine Met.ofW (cc := cX7_isAnyEmpty) (maxL := 2) (ret := (some .boolean)) (by decide) rfl ?_
  intro p e s m args below meth c s₁ B hml hv
  obtain ⟨rfl, hsz, hP, hK, hD0⟩ := hv
  have hx := B.exec
  have hb := B.bytes
  have hr := B.returns
  have hts := atoms_spec (ws := wsMX7_isAnyEmpty) B.pre
  have hown : s.vm.findClass RX7 = some m.cls := findClass_of_methodNamed B.named
  have hlocks := B.notSynchronized
  subst hsz
  have hD := hD0.self (sz := s.heap.size)
  generalize hAe : va_A (WV hV aV kV iV_holders iV_rules fV_pairs fV_domain fV_kind fV_a fV_b fV_c fV_rulePairs fV_lastHolder fV_now iV_doneFor iV_changed gV_fore gV_back fV_together fV_member gV_list dV_list nV_list iV_listed iV_listDone) s.heap.size = A at hD ⊢
  have hA : ∀ q : Nat, s.heap.size ≤ q → A q := fun q h => by rw [← hAe]; exact Or.inr h
  have hS : va_S A s.heap s.heap [] := va_S.rf
  have hl := lv_entry ([.ref (hV 0)]) (n := 2) (Nat.le_of_ble_eq_true rfl)
  rw [lg_entry_eq]
  generalize (lg_sl ([.ref (hV 0)]) ++ List.replicate (2 - (lg_sl ([.ref (hV 0)])).length) Slot.unset).toArray = ls at hl ⊢
  have hl : lv_has ls 2 [(0, .ref (hV 0))] := hl
  refine lv_iconst (v := 0) hx hb dX7_isAnyEmpty_0 (by decide) ?_
  refine lv_istore_n hx hb dX7_isAnyEmpty_1 rfl hl (by decide) rfl (fun ls (hl : lv_has ls _ ([(1, .int 0), (0, .ref (hV 0))])) => ?_)
  have hl : lv_has _ _ ([(1, .int 0), (0, .ref (hV 0))]) := lv_sub hl [0, 1] rfl
  refine (fun (loop : ∀ (n9 : Nat) (l1_x2 : Int32) (H : Heap) (locs : List Loc) (ls : Array Slot), (0 ≤ l1_x2.toInt ∧ l1_x2.toInt ≤ 10) → (10 - l1_x2.toInt < ((n9 : Nat) : Int)) → va_P (dC, dI) vwCl (WV hV aV kV iV_holders iV_rules fV_pairs fV_domain fV_kind fV_a fV_b fV_c fV_rulePairs fV_lastHolder fV_now iV_doneFor iV_changed gV_fore gV_back fV_together fV_member gV_list dV_list nV_list iV_listed iV_listDone) H → va_D A (WV hV aV kV iV_holders iV_rules fV_pairs fV_domain fV_kind fV_a fV_b fV_c fV_rulePairs fV_lastHolder fV_now iV_doneFor iV_changed gV_fore gV_back fV_together fV_member gV_list dV_list nV_list iV_listed iV_listDone) → va_S A s.heap H locs → lv_has ls 2 [(1, .int l1_x2), (0, .ref (hV 0))] → W p l e _ s m _ below meth c H locs 0 0 _ (F0 m 2 ls [])) => loop (11) 0 _ _ _ (show 0 ≤ (0 : Int32).toInt ∧ (0 : Int32).toInt ≤ 10 from by decide) ((by have e9 : (0 : Int32).toInt = 0 := (by decide : (0 : Int32).toInt = 0); omega)) hP hD hS hl) ?_
  intro n9
  induction n9 with
  | zero => intro l1_x2 H locs ls b_l1_x2 hf9; exact False.elim (by omega)
  | succ n9 ihx2 =>
    intro l1_x2 H locs ls b_l1_x2 hfx2 hP hD hS hl
    refine lv_iload_n hx hb dX7_isAnyEmpty_2 rfl (lv_at hl 0 rfl) ?_
    refine lv_aload_n hx hb dX7_isAnyEmpty_3 rfl (lv_at hl 1 rfl) ?_
    refine va_get (D := (dC, dI)) (ci := 7) (v := .int iV_holders) (C := RX7) (T := TX7) (N := 20) hx hb hts iwsMX7_isAnyEmpty_in7 hown hK hP 0 rfl rfl 0 (by decide) (hts (.fieldLink RX7 59 "OptimaWorks$ValueDesk" "holders" "I") (by decide +kernel)) (fun _ h9 => h9) rfl dX7_isAnyEmpty_4 ?_
    refine lv_icmp_ge (tgt := 27) hx hb dX7_isAnyEmpty_7 (by decide) (fun c_7 => ?_) (fun c_7 => ?_)
    · have t_7 : l1_x2.toInt ≥ iV_holders.toInt := toI_ge c_7 rfl rfl
      refine lv_iconst (v := 0) hx hb dX7_isAnyEmpty_27 (by decide) ?_
      refine W.widen (k := 0) (n := 0) (by decide +kernel) (by decide +kernel) ?_
      exact W.zret (v := 0) hx hb hr rfl (fun t9_ ht hW => ⟨⟨(0 : Int32), (), rfl, (show 0 ≤ (0 : Int32).toInt ∧ (0 : Int32).toInt ≤ 1 from by decide), by rw [ht]; exact hP, hD⟩, hS.F ht⟩) hS.2.2 dX7_isAnyEmpty_28
    · have t_7 : ¬ l1_x2.toInt ≥ iV_holders.toInt := toI_nge c_7 rfl rfl
      refine lv_aload_n hx hb dX7_isAnyEmpty_10 rfl (lv_at hl 1 rfl) ?_
      refine va_get (D := (dC, dI)) (ci := 7) (v := .ref (aV 8)) (C := RX7) (T := TX7) (N := 20) hx hb hts iwsMX7_isAnyEmpty_in7 hown hK hP 0 rfl rfl 10 (by decide) (hts (.fieldLink RX7 36 "OptimaWorks$ValueDesk" "now" "[I") (by decide +kernel)) (fun _ h9 => h9) rfl dX7_isAnyEmpty_11 ?_
      refine lv_iload_n hx hb dX7_isAnyEmpty_14 rfl (lv_at hl 0 rfl) ?_
      refine va_iald (cA := kV 8) (n := 10) (f := fV_now) hx hb hK hP 9 8 rfl rfl (vp_in_iff.mpr ⟨b_l1_x2.1, (Int.lt_of_lt_of_le (Int.not_le.mp t_7) (Int.le_trans b_iV_holders.2 (by decide)))⟩) dX7_isAnyEmpty_15 ?_
      refine lv_topi (fun v3 hv3 => ?_)
      clear hv3
      refine lv_if_ne (tgt := 21) hx hb dX7_isAnyEmpty_16 (by decide) (fun c_16 => ?_) (fun c_16 => ?_)
      · have t_16 : v3.toInt ≠ 0 := toI_ne c_16 rfl (by decide : (0 : Int32).toInt = 0)
        refine lv_iinc (v := (iI (l1_x2.toInt + 1))) hx hb dX7_isAnyEmpty_21 hl (k := 0) rfl (iI_add2 (iI_of _) (by decide : (1 : Int32) = iI 1)) (by decide) rfl (fun ls (hl : lv_has ls _ ([(1, .int (iI (l1_x2.toInt + 1))), (0, .ref (hV 0))])) => ?_)
        refine lv_goto (tgt := 2) hx hb dX7_isAnyEmpty_24 (by decide) ?_
        have hl : lv_has _ _ ([(1, .int (iI (l1_x2.toInt + 1))), (0, .ref (hV 0))]) := lv_sub hl [0, 1] rfl
        exact ihx2 (iI (l1_x2.toInt + 1)) _ _ _ (iI_rng (Int.le_trans (by decide) (Int.add_le_add (b_l1_x2.1) (Int.le_refl _))) (by omega) (by decide) (by decide)) (by have e9 : ((iI (l1_x2.toInt + 1))).toInt = (l1_x2.toInt + 1) := (iI_t (Int.le_trans (by decide) (Int.add_le_add (b_l1_x2.1) (Int.le_refl _))) (Int.le_trans (Int.add_le_add (b_l1_x2.2) (Int.le_refl _)) (by decide))); omega) hP hD hS hl
      · have t_16 : v3.toInt = 0 := toI_nne c_16 rfl (by decide : (0 : Int32).toInt = 0)
        refine lv_iconst (v := 1) hx hb dX7_isAnyEmpty_19 (by decide) ?_
        refine W.widen (k := 0) (n := 0) (by decide +kernel) (by decide +kernel) ?_
        exact W.zret (v := 1) hx hb hr rfl (fun t9_ ht hW => ⟨⟨(1 : Int32), (), rfl, (show 0 ≤ (1 : Int32).toInt ∧ (1 : Int32).toInt ≤ 1 from by decide), by rw [ht]; exact hP, hD⟩, hS.F ht⟩) hS.2.2 dX7_isAnyEmpty_20
theorem dX7_cutTo_0 : decode cX7_cutTo 0 = .ok (.aload_n 0, 1) := dk_42 (by decide +kernel)
theorem dX7_cutTo_1 : decode cX7_cutTo 1 = .ok (.getfield 36, 3) := dk_180 (by decide +kernel)
theorem dX7_cutTo_4 : decode cX7_cutTo 4 = .ok (.iload_n 1, 1) := dk_27 (by decide +kernel)
theorem dX7_cutTo_5 : decode cX7_cutTo 5 = .ok (.iaload, 1) := dk_46 (by decide +kernel)
theorem dX7_cutTo_6 : decode cX7_cutTo 6 = .ok (.iload_n 2, 1) := dk_28 (by decide +kernel)
theorem dX7_cutTo_7 : decode cX7_cutTo 7 = .ok (.iconst (-1), 1) := dk_2 (by decide +kernel)
theorem dX7_cutTo_8 : decode cX7_cutTo 8 = .ok (.ixor, 1) := dk_130 (by decide +kernel)
theorem dX7_cutTo_9 : decode cX7_cutTo 9 = .ok (.iand, 1) := dk_126 (by decide +kernel)
theorem dX7_cutTo_10 : decode cX7_cutTo 10 = .ok (.ifCond .eq 18, 3) := dk_153 (by decide +kernel)
theorem dX7_cutTo_13 : decode cX7_cutTo 13 = .ok (.aload_n 0, 1) := dk_42 (by decide +kernel)
theorem dX7_cutTo_14 : decode cX7_cutTo 14 = .ok (.getfield 36, 3) := dk_180 (by decide +kernel)
theorem dX7_cutTo_17 : decode cX7_cutTo 17 = .ok (.iload_n 1, 1) := dk_27 (by decide +kernel)
theorem dX7_cutTo_18 : decode cX7_cutTo 18 = .ok (.dup2, 1) := dk_92 (by decide +kernel)
theorem dX7_cutTo_19 : decode cX7_cutTo 19 = .ok (.iaload, 1) := dk_46 (by decide +kernel)
theorem dX7_cutTo_20 : decode cX7_cutTo 20 = .ok (.iload_n 2, 1) := dk_28 (by decide +kernel)
theorem dX7_cutTo_21 : decode cX7_cutTo 21 = .ok (.iand, 1) := dk_126 (by decide +kernel)
theorem dX7_cutTo_22 : decode cX7_cutTo 22 = .ok (.iastore, 1) := dk_79 (by decide +kernel)
theorem dX7_cutTo_23 : decode cX7_cutTo 23 = .ok (.aload_n 0, 1) := dk_42 (by decide +kernel)
theorem dX7_cutTo_24 : decode cX7_cutTo 24 = .ok (.iconst 1, 1) := dk_4 (by decide +kernel)
theorem dX7_cutTo_25 : decode cX7_cutTo 25 = .ok (.putfield 106, 3) := dk_181 (by decide +kernel)
theorem dX7_cutTo_28 : decode cX7_cutTo 28 = .ok (.return_, 1) := dk_177 (by decide +kernel)
def wsMX7_cutTo : List Cond := .code yX7_cutTo cX7_cutTo 3 none :: ([.fieldLink RX7 36 "OptimaWorks$ValueDesk" "now" "[I", .fieldLink RX7 106 "OptimaWorks$ValueDesk" "changed" "Z"] ++ wsX70)
theorem iwsMX7_cutTo_in7 : ∀ w ∈ wsX70, w ∈ wsMX7_cutTo := fun _ h => List.mem_cons_of_mem _ (List.mem_append_right _ h)
theorem gdwsMX7_cutTo : wsMX7_cutTo.all goodWord = true := gdC rfl (gdA (by decide +kernel : ([.fieldLink RX7 36 "OptimaWorks$ValueDesk" "now" "[I", .fieldLink RX7 106 "OptimaWorks$ValueDesk" "changed" "Z"] : List Cond).all goodWord = true) gdwsX70)
theorem hm_m_X7_cutTo_0 : (.fieldLink RX7 36 "OptimaWorks$ValueDesk" "now" "[I" : Cond) ∈ wsMX7_cutTo := by decide +kernel
set_option maxHeartbeats 4000000 in
set_option maxRecDepth 100000 in
/-- fewer values -/
theorem m_X7_cutTo (l : Launch) (dC : Nat → ClassId) (dI : Nat → Nat → Nat) (hV : Nat → Nat) (aV : Nat → Nat) (kV : Nat → ClassId) (iV_holders : Int32) (iV_rules : Int32) (fV_pairs : Nat → Int32) (fV_domain : Nat → Int32) (fV_kind : Nat → Int32) (fV_a : Nat → Int32) (fV_b : Nat → Int32) (fV_c : Nat → Int32) (fV_rulePairs : Nat → Int32) (fV_lastHolder : Nat → Int32) (fV_now : Nat → Int32) (iV_doneFor : Int32) (iV_changed : Int32) (gV_fore : Nat → Int64) (gV_back : Nat → Int64) (fV_together : Nat → Int32) (fV_member : Nat → Int32) (gV_list : Nat → Int64) (dV_list : Nat) (nV_list : Nat) (iV_listed : Int32) (iV_listDone : Int32) (p1 : Int32) (p2 : Int32) (b_iV_holders : 0 ≤ iV_holders.toInt ∧ iV_holders.toInt ≤ 10) (b_iV_rules : 0 ≤ iV_rules.toInt ∧ iV_rules.toInt ≤ 12) (b_fV_kind : ∀ q : Nat, 0 ≤ (fV_kind q).toInt ∧ (fV_kind q).toInt ≤ 4) (b_iV_changed : 0 ≤ iV_changed.toInt ∧ iV_changed.toInt ≤ 1) (b_fV_member : ∀ q : Nat, (-1) ≤ (fV_member q).toInt ∧ (fV_member q).toInt ≤ 15) (b_nV_list : 0 ≤ nV_list ∧ nV_list ≤ 20000) (b_iV_listed : (-1) ≤ iV_listed.toInt ∧ iV_listed.toInt ≤ 5000) (b_iV_listDone : 0 ≤ iV_listDone.toInt ∧ iV_listDone.toInt ≤ 1) (b_RuV : RuV fV_kind fV_a fV_b fV_c fV_lastHolder) (b_lst : iV_listed.toInt ≤ ((nV_list : Nat) : Int)) (b_p1 : 0 ≤ p1.toInt ∧ p1.toInt ≤ 9) (sz : Nat) : Met l yX7_cutTo wsMX7_cutTo ({ frames := 0, cells := 0, slots := 0, locals := 0 }) (va_Pc [.ref (hV 0), .int p1, .int p2] (fun U => U.heap.size = sz ∧ va_P (dC, dI) vwCl (WV hV aV kV iV_holders iV_rules fV_pairs fV_domain fV_kind fV_a fV_b fV_c fV_rulePairs fV_lastHolder fV_now iV_doneFor iV_changed gV_fore gV_back fV_together fV_member gV_list dV_list nV_list iV_listed iV_listDone) U.heap ∧ va_K (dC, dI) vwCl (tV kV) U ∧ va_D (fun _ => True) (WV hV aV kV iV_holders iV_rules fV_pairs fV_domain fV_kind fV_a fV_b fV_c fV_rulePairs fV_lastHolder fV_now iV_doneFor iV_changed gV_fore gV_back fV_together fV_member gV_list dV_list nV_list iV_listed iV_listDone))) (va_Qv (fun (u : (Nat → Int32) × (Int32)) => (0 ≤ (u.2).toInt ∧ (u.2).toInt ≤ 1)) (fun (u : (Nat → Int32) × (Int32)) t => va_P (dC, dI) vwCl (WV hV aV kV iV_holders iV_rules fV_pairs fV_domain fV_kind fV_a fV_b fV_c fV_rulePairs fV_lastHolder (u.1) iV_doneFor (u.2) gV_fore gV_back fV_together fV_member gV_list dV_list nV_list iV_listed iV_listDone) t.heap ∧ va_D (va_A (WV hV aV kV iV_holders iV_rules fV_pairs fV_domain fV_kind fV_a fV_b fV_c fV_rulePairs fV_lastHolder fV_now iV_doneFor iV_changed gV_fore gV_back fV_together fV_member gV_list dV_list nV_list iV_listed iV_listDone) sz) (WV hV aV kV iV_holders iV_rules fV_pairs fV_domain fV_kind fV_a fV_b fV_c fV_rulePairs fV_lastHolder (u.1) iV_doneFor (u.2) gV_fore gV_back fV_together fV_member gV_list dV_list nV_list iV_listed iV_listDone)) (va_A (WV hV aV kV iV_holders iV_rules fV_pairs fV_domain fV_kind fV_a fV_b fV_c fV_rulePairs fV_lastHolder fV_now iV_doneFor iV_changed gV_fore gV_back fV_together fV_member gV_list dV_list nV_list iV_listed iV_listDone) sz)) 0 0 (va_A (WV hV aV kV iV_holders iV_rules fV_pairs fV_domain fV_kind fV_a fV_b fV_c fV_rulePairs fV_lastHolder fV_now iV_doneFor iV_changed gV_fore gV_back fV_together fV_member gV_list dV_list nV_list iV_listed iV_listDone) sz) := by
  refine Met.ofW (cc := cX7_cutTo) (maxL := 3) (ret := none) (by decide) rfl ?_
  intro p e s m args below meth c s₁ B hml hv
  obtain ⟨rfl, hsz, hP, hK, hD0⟩ := hv
  have hx := B.exec
  have hb := B.bytes
  have hr := B.returns
  have hts := atoms_spec (ws := wsMX7_cutTo) B.pre
  have hown : s.vm.findClass RX7 = some m.cls := findClass_of_methodNamed B.named
  have hlocks := B.notSynchronized
  subst hsz
  have hD := hD0.self (sz := s.heap.size)
  generalize hAe : va_A (WV hV aV kV iV_holders iV_rules fV_pairs fV_domain fV_kind fV_a fV_b fV_c fV_rulePairs fV_lastHolder fV_now iV_doneFor iV_changed gV_fore gV_back fV_together fV_member gV_list dV_list nV_list iV_listed iV_listDone) s.heap.size = A at hD ⊢
  have hA : ∀ q : Nat, s.heap.size ≤ q → A q := fun q h => by rw [← hAe]; exact Or.inr h
  have hS : va_S A s.heap s.heap [] := va_S.rf
  have hl := lv_entry ([.ref (hV 0), .int p1, .int p2]) (n := 3) (Nat.le_of_ble_eq_true rfl)
  rw [lg_entry_eq]
  generalize (lg_sl ([.ref (hV 0), .int p1, .int p2]) ++ List.replicate (3 - (lg_sl ([.ref (hV 0), .int p1, .int p2])).length) Slot.unset).toArray = ls at hl ⊢
  have hl : lv_has ls 3 [(0, .ref (hV 0)), (1, .int p1), (2, .int p2)] := hl
  refine lv_aload_n hx hb dX7_cutTo_0 rfl (lv_at hl 0 rfl) ?_
  refine va_get (D := (dC, dI)) (ci := 7) (v := .ref (aV 8)) (C := RX7) (T := TX7) (N := 20) hx hb hts iwsMX7_cutTo_in7 hown hK hP 0 rfl rfl 10 (by decide) (hts _ hm_m_X7_cutTo_0) (fun _ h9 => h9) rfl dX7_cutTo_1 ?_
  refine lv_iload_n hx hb dX7_cutTo_4 rfl (lv_at hl 1 rfl) ?_
  refine va_iald (cA := kV 8) (n := 10) (f := fV_now) hx hb hK hP 9 8 rfl rfl (vp_in_iff.mpr ⟨b_p1.1, (Int.lt_of_le_of_lt (b_p1.2) (by decide))⟩) dX7_cutTo_5 ?_
  refine lv_topi (fun v1 hv1 => ?_)
  clear hv1
  refine lv_iload_n hx hb dX7_cutTo_6 rfl (lv_at hl 2 rfl) ?_
  refine lv_iconst (v := (-1)) hx hb dX7_cutTo_7 (by decide) ?_
  refine lv_ixor hx hb dX7_cutTo_8 ?_
  refine lv_topi (fun v2 hv2 => ?_)
  clear hv2
  refine lv_iand hx hb dX7_cutTo_9 ?_
  refine lv_topi (fun v3 hv3 => ?_)
  clear hv3
  refine W.cut (pc := 28) (fun H locs ls stk => ∃ (fV_now_j2 : Nat → Int32) (iV_changed_j2 : Int32), (0 ≤ iV_changed_j2.toInt ∧ iV_changed_j2.toInt ≤ 1) ∧  stk = [] ∧ va_P (dC, dI) vwCl (WV hV aV kV iV_holders iV_rules fV_pairs fV_domain fV_kind fV_a fV_b fV_c fV_rulePairs fV_lastHolder fV_now_j2 iV_doneFor iV_changed_j2 gV_fore gV_back fV_together fV_member gV_list dV_list nV_list iV_listed iV_listDone) H ∧ va_D A (WV hV aV kV iV_holders iV_rules fV_pairs fV_domain fV_kind fV_a fV_b fV_c fV_rulePairs fV_lastHolder fV_now_j2 iV_doneFor iV_changed_j2 gV_fore gV_back fV_together fV_member gV_list dV_list nV_list iV_listed iV_listDone) ∧ va_S A s.heap H locs ∧ lv_has ls 3 [(0, .ref (hV 0)), (1, .int p1), (2, .int p2)]) (fun join2 => ?_) ?_
  · refine lv_if_eq (tgt := 28) hx hb dX7_cutTo_10 (by decide) (fun c_10 => ?_) (fun c_10 => ?_)
    · have t_10 : v3.toInt = 0 := toI_eq c_10 rfl (by decide : (0 : Int32).toInt = 0)
      have hl : lv_has _ _ ([(0, .ref (hV 0)), (1, .int p1), (2, .int p2)]) := lv_sub hl [0, 1, 2] rfl
      exact join2 _ _ _ _ ⟨fV_now, iV_changed, (b_iV_changed), rfl, hP, hD, hS, hl⟩
    · have t_10 : ¬ v3.toInt = 0 := toI_neq c_10 rfl (by decide : (0 : Int32).toInt = 0)
      refine lv_aload_n hx hb dX7_cutTo_13 rfl (lv_at hl 0 rfl) ?_
      refine va_get (D := (dC, dI)) (ci := 7) (v := .ref (aV 8)) (C := RX7) (T := TX7) (N := 20) hx hb hts iwsMX7_cutTo_in7 hown hK hP 0 rfl rfl 10 (by decide) (hts _ hm_m_X7_cutTo_0) (fun _ h9 => h9) rfl dX7_cutTo_14 ?_
      refine lv_iload_n hx hb dX7_cutTo_17 rfl (lv_at hl 1 rfl) ?_
      refine lv_dup2_11 hx hb dX7_cutTo_18 rfl rfl ?_
      refine va_iald (cA := kV 8) (n := 10) (f := fV_now) hx hb hK hP 9 8 rfl rfl (vp_in_iff.mpr ⟨b_p1.1, (Int.lt_of_le_of_lt (b_p1.2) (by decide))⟩) dX7_cutTo_19 ?_
      refine lv_topi (fun v7 hv7 => ?_)
      clear hv7
      refine lv_iload_n hx hb dX7_cutTo_20 rfl (lv_at hl 2 rfl) ?_
      refine lv_iand hx hb dX7_cutTo_21 ?_
      refine lv_topi (fun v8 hv8 => ?_)
      clear hv8
      refine va_iast (cA := kV 8) (n := 10) (f := fV_now) hx hb hK hP hD hS 9 8 rfl rfl (vp_in_iff.mpr ⟨b_p1.1, (Int.lt_of_le_of_lt (b_p1.2) (by decide))⟩) dX7_cutTo_22 (fun H locs hP hD hS => ?_)
      obtain ⟨u9, hu9⟩ : ∃ f9, f9 = upd fV_now (p1).toNatClampNeg v8 := ⟨_, rfl⟩
      have hP : va_P (dC, dI) vwCl (WV hV aV kV iV_holders iV_rules fV_pairs fV_domain fV_kind fV_a fV_b fV_c fV_rulePairs fV_lastHolder u9 iV_doneFor iV_changed gV_fore gV_back fV_together fV_member gV_list dV_list nV_list iV_listed iV_listDone) H := by rw [hu9]; exact hP
      have hD : va_D A (WV hV aV kV iV_holders iV_rules fV_pairs fV_domain fV_kind fV_a fV_b fV_c fV_rulePairs fV_lastHolder u9 iV_doneFor iV_changed gV_fore gV_back fV_together fV_member gV_list dV_list nV_list iV_listed iV_listDone) := by rw [hu9]; exact hD
      clear hu9
      refine lv_aload_n hx hb dX7_cutTo_23 rfl (lv_at hl 0 rfl) ?_
      refine lv_iconst (v := 1) hx hb dX7_cutTo_24 (by decide) ?_
      refine va_put (D := (dC, dI)) (ci := 7) (v := .int 1) (ty := .boolean) (C := RX7) (T := TX7) (N := 20) hx hb hts iwsMX7_cutTo_in7 tyX7 tyX7_ok nmX7 hown hK hP hD hS 0 rfl rfl 12 (by decide) (hts (.fieldLink RX7 106 "OptimaWorks$ValueDesk" "changed" "Z") (by decide +kernel)) (fun _ h9 => h9) rfl (by decide +kernel) rfl rfl (Nat.le_of_ble_eq_true rfl) dX7_cutTo_25 (fun H locs hP hD hS => ?_)
      have hP : va_P (dC, dI) vwCl (WV hV aV kV iV_holders iV_rules fV_pairs fV_domain fV_kind fV_a fV_b fV_c fV_rulePairs fV_lastHolder u9 iV_doneFor 1 gV_fore gV_back fV_together fV_member gV_list dV_list nV_list iV_listed iV_listDone) H := hP
      have hD := fz_sd hP (hD) rfl
      have hl : lv_has _ _ ([(0, .ref (hV 0)), (1, .int p1), (2, .int p2)]) := lv_sub hl [0, 1, 2] rfl
      exact join2 _ _ _ _ ⟨u9, 1, (show 0 ≤ (1 : Int32).toInt ∧ (1 : Int32).toInt ≤ 1 from by decide), rfl, hP, hD, hS, hl⟩
  · rintro H locs ls stk ⟨fV_now_j2, iV_changed_j2, b_iV_changed_j2, rfl, hP, hD, hS, hl⟩
    refine W.widen (k := 0) (n := 0) (by decide +kernel) (by decide +kernel) ?_
    exact W.vret hx hb hr (fun t9_ ht hW => ⟨⟨(fV_now_j2, iV_changed_j2), rfl, b_iV_changed_j2, by rw [ht]; exact hP, hD⟩, hS.F ht⟩) hS.2.2 dX7_cutTo_28
theorem dX7_takeMembers_0 : decode cX7_takeMembers 0 = .ok (.iconst 0, 1) := dk_3 (by decide +kernel)
theorem dX7_takeMembers_1 : decode cX7_takeMembers 1 = .ok (.istore_n 2, 1) := dk_61 (by decide +kernel)
theorem dX7_takeMembers_2 : decode cX7_takeMembers 2 = .ok (.iconst 0, 1) := dk_3 (by decide +kernel)
theorem dX7_takeMembers_3 : decode cX7_takeMembers 3 = .ok (.istore_n 3, 1) := dk_62 (by decide +kernel)
theorem dX7_takeMembers_4 : decode cX7_takeMembers 4 = .ok (.iload_n 3, 1) := dk_29 (by decide +kernel)
theorem dX7_takeMembers_5 : decode cX7_takeMembers 5 = .ok (.aload_n 0, 1) := dk_42 (by decide +kernel)
theorem dX7_takeMembers_6 : decode cX7_takeMembers 6 = .ok (.getfield 59, 3) := dk_180 (by decide +kernel)
theorem dX7_takeMembers_9 : decode cX7_takeMembers 9 = .ok (.if_icmp .ge 27, 3) := dk_162 (by decide +kernel)
theorem dX7_takeMembers_12 : decode cX7_takeMembers 12 = .ok (.iload_n 1, 1) := dk_27 (by decide +kernel)
theorem dX7_takeMembers_13 : decode cX7_takeMembers 13 = .ok (.iload_n 3, 1) := dk_29 (by decide +kernel)
theorem dX7_takeMembers_14 : decode cX7_takeMembers 14 = .ok (.ishr, 1) := dk_122 (by decide +kernel)
theorem dX7_takeMembers_15 : decode cX7_takeMembers 15 = .ok (.iconst 1, 1) := dk_4 (by decide +kernel)
theorem dX7_takeMembers_16 : decode cX7_takeMembers 16 = .ok (.iand, 1) := dk_126 (by decide +kernel)
theorem dX7_takeMembers_17 : decode cX7_takeMembers 17 = .ok (.ifCond .eq 13, 3) := dk_153 (by decide +kernel)
theorem dX7_takeMembers_20 : decode cX7_takeMembers 20 = .ok (.aload_n 0, 1) := dk_42 (by decide +kernel)
theorem dX7_takeMembers_21 : decode cX7_takeMembers 21 = .ok (.getfield 53, 3) := dk_180 (by decide +kernel)
theorem dX7_takeMembers_24 : decode cX7_takeMembers 24 = .ok (.iload_n 2, 1) := dk_28 (by decide +kernel)
theorem dX7_takeMembers_25 : decode cX7_takeMembers 25 = .ok (.iload_n 3, 1) := dk_29 (by decide +kernel)
theorem dX7_takeMembers_26 : decode cX7_takeMembers 26 = .ok (.iastore, 1) := dk_79 (by decide +kernel)
theorem dX7_takeMembers_27 : decode cX7_takeMembers 27 = .ok (.iinc 2 1, 3) := dk_132 (by decide +kernel)
theorem dX7_takeMembers_30 : decode cX7_takeMembers 30 = .ok (.iinc 3 1, 3) := dk_132 (by decide +kernel)
theorem dX7_takeMembers_33 : decode cX7_takeMembers 33 = .ok (.goto (-29), 3) := dk_167 (by decide +kernel)
theorem dX7_takeMembers_36 : decode cX7_takeMembers 36 = .ok (.iload_n 2, 1) := dk_28 (by decide +kernel)
theorem dX7_takeMembers_37 : decode cX7_takeMembers 37 = .ok (.ireturn, 1) := dk_172 (by decide +kernel)
def wsMX7_takeMembers : List Cond := .code yX7_takeMembers cX7_takeMembers 4 (some .int) :: ([.fieldLink RX7 59 "OptimaWorks$ValueDesk" "holders" "I", .fieldLink RX7 53 "OptimaWorks$ValueDesk" "member" "[I"] ++ wsX70)
theorem iwsMX7_takeMembers_in7 : ∀ w ∈ wsX70, w ∈ wsMX7_takeMembers := fun _ h => List.mem_cons_of_mem _ (List.mem_append_right _ h)
theorem gdwsMX7_takeMembers : wsMX7_takeMembers.all goodWord = true := gdC rfl (gdA (by decide +kernel : ([.fieldLink RX7 59 "OptimaWorks$ValueDesk" "holders" "I", .fieldLink RX7 53 "OptimaWorks$ValueDesk" "member" "[I"] : List Cond).all goodWord = true) gdwsX70)
set_option maxHeartbeats 4000000 in
set_option maxRecDepth 100000 in
/-- the members of a set -/
theorem m_X7_takeMembers (l : Launch) (dC : Nat → ClassId) (dI : Nat → Nat → Nat) (hV : Nat → Nat) (aV : Nat → Nat) (kV : Nat → ClassId) (iV_holders : Int32) (iV_rules : Int32) (fV_pairs : Nat → Int32) (fV_domain : Nat → Int32) (fV_kind : Nat → Int32) (fV_a : Nat → Int32) (fV_b : Nat → Int32) (fV_c : Nat → Int32) (fV_rulePairs : Nat → Int32) (fV_lastHolder : Nat → Int32) (fV_now : Nat → Int32) (iV_doneFor : Int32) (iV_changed : Int32) (gV_fore : Nat → Int64) (gV_back : Nat → Int64) (fV_together : Nat → Int32) (fV_member : Nat → Int32) (gV_list : Nat → Int64) (dV_list : Nat) (nV_list : Nat) (iV_listed : Int32) (iV_listDone : Int32) (p1 : Int32) (b_iV_holders : 0 ≤ iV_holders.toInt ∧ iV_holders.toInt ≤ 10) (b_iV_rules : 0 ≤ iV_rules.toInt ∧ iV_rules.toInt ≤ 12) (b_fV_kind : ∀ q : Nat, 0 ≤ (fV_kind q).toInt ∧ (fV_kind q).toInt ≤ 4) (b_iV_changed : 0 ≤ iV_changed.toInt ∧ iV_changed.toInt ≤ 1) (b_fV_member : ∀ q : Nat, (-1) ≤ (fV_member q).toInt ∧ (fV_member q).toInt ≤ 15) (b_nV_list : 0 ≤ nV_list ∧ nV_list ≤ 20000) (b_iV_listed : (-1) ≤ iV_listed.toInt ∧ iV_listed.toInt ≤ 5000) (b_iV_listDone : 0 ≤ iV_listDone.toInt ∧ iV_listDone.toInt ≤ 1) (b_RuV : RuV fV_kind fV_a fV_b fV_c fV_lastHolder) (b_lst : iV_listed.toInt ≤ ((nV_list : Nat) : Int)) (sz : Nat) : Met l yX7_takeMembers wsMX7_takeMembers ({ frames := 0, cells := 0, slots := 0, locals := 0 }) (va_Pc [.ref (hV 0), .int p1] (fun U => U.heap.size = sz ∧ va_P (dC, dI) vwCl (WV hV aV kV iV_holders iV_rules fV_pairs fV_domain fV_kind fV_a fV_b fV_c fV_rulePairs fV_lastHolder fV_now iV_doneFor iV_changed gV_fore gV_back fV_together fV_member gV_list dV_list nV_list iV_listed iV_listDone) U.heap ∧ va_K (dC, dI) vwCl (tV kV) U ∧ va_D (fun _ => True) (WV hV aV kV iV_holders iV_rules fV_pairs fV_domain fV_kind fV_a fV_b fV_c fV_rulePairs fV_lastHolder fV_now iV_doneFor iV_changed gV_fore gV_back fV_together fV_member gV_list dV_list nV_list iV_listed iV_listDone))) (va_Qi (fun (r : Int32) (u : Nat → Int32) => (∀ q : Nat, (-1) ≤ (u q).toInt ∧ (u q).toInt ≤ 15) ∧ (0 ≤ r.toInt ∧ r.toInt ≤ 10) ∧ (MemO u r.toInt)) (fun (u : Nat → Int32) t => va_P (dC, dI) vwCl (WV hV aV kV iV_holders iV_rules fV_pairs fV_domain fV_kind fV_a fV_b fV_c fV_rulePairs fV_lastHolder fV_now iV_doneFor iV_changed gV_fore gV_back fV_together u gV_list dV_list nV_list iV_listed iV_listDone) t.heap ∧ va_D (va_A (WV hV aV kV iV_holders iV_rules fV_pairs fV_domain fV_kind fV_a fV_b fV_c fV_rulePairs fV_lastHolder fV_now iV_doneFor iV_changed gV_fore gV_back fV_together fV_member gV_list dV_list nV_list iV_listed iV_listDone) sz) (WV hV aV kV iV_holders iV_rules fV_pairs fV_domain fV_kind fV_a fV_b fV_c fV_rulePairs fV_lastHolder fV_now iV_doneFor iV_changed gV_fore gV_back fV_together u gV_list dV_list nV_list iV_listed iV_listDone)) (va_A (WV hV aV kV iV_holders iV_rules fV_pairs fV_domain fV_kind fV_a fV_b fV_c fV_rulePairs fV_lastHolder fV_now iV_doneFor iV_changed gV_fore gV_back fV_together fV_member gV_list dV_list nV_list iV_listed iV_listDone) sz)) 0 0 (va_A (WV hV aV kV iV_holders iV_rules fV_pairs fV_domain fV_kind fV_a fV_b fV_c fV_rulePairs fV_lastHolder fV_now iV_doneFor iV_changed gV_fore gV_back fV_together fV_member gV_list dV_list nV_list iV_listed iV_listDone) sz) := by
  refine Met.ofW (cc := cX7_takeMembers) (maxL := 4) (ret := (some .int)) (by decide) rfl ?_
  intro p e s m args below meth c s₁ B hml hv
  obtain ⟨rfl, hsz, hP, hK, hD0⟩ := hv
  have hx := B.exec
  have hb := B.bytes
  have hr := B.returns
  have hts := atoms_spec (ws := wsMX7_takeMembers) B.pre
  have hown : s.vm.findClass RX7 = some m.cls := findClass_of_methodNamed B.named
  have hlocks := B.notSynchronized
  subst hsz
  have hD := hD0.self (sz := s.heap.size)
  generalize hAe : va_A (WV hV aV kV iV_holders iV_rules fV_pairs fV_domain fV_kind fV_a fV_b fV_c fV_rulePairs fV_lastHolder fV_now iV_doneFor iV_changed gV_fore gV_back fV_together fV_member gV_list dV_list nV_list iV_listed iV_listDone) s.heap.size = A at hD ⊢
  have hA : ∀ q : Nat, s.heap.size ≤ q → A q := fun q h => by rw [← hAe]; exact Or.inr h
  have hS : va_S A s.heap s.heap [] := va_S.rf
  have hl := lv_entry ([.ref (hV 0), .int p1]) (n := 4) (Nat.le_of_ble_eq_true rfl)
  rw [lg_entry_eq]
  generalize (lg_sl ([.ref (hV 0), .int p1]) ++ List.replicate (4 - (lg_sl ([.ref (hV 0), .int p1])).length) Slot.unset).toArray = ls at hl ⊢
  have hl : lv_has ls 4 [(0, .ref (hV 0)), (1, .int p1)] := hl
  refine lv_iconst (v := 0) hx hb dX7_takeMembers_0 (by decide) ?_
  refine lv_istore_n hx hb dX7_takeMembers_1 rfl hl (by decide) rfl (fun ls (hl : lv_has ls _ ([(2, .int 0), (0, .ref (hV 0)), (1, .int p1)])) => ?_)
  refine lv_iconst (v := 0) hx hb dX7_takeMembers_2 (by decide) ?_
  refine lv_istore_n hx hb dX7_takeMembers_3 rfl hl (by decide) rfl (fun ls (hl : lv_has ls _ ([(3, .int 0), (2, .int 0), (0, .ref (hV 0)), (1, .int p1)])) => ?_)
  have hl : lv_has _ _ ([(3, .int 0), (2, .int 0), (0, .ref (hV 0)), (1, .int p1)]) := lv_sub hl [0, 1, 2, 3] rfl
  refine (fun (loop : ∀ (n9 : Nat) (fV_member_x4 : Nat → Int32) (l3_x4 : Int32) (l2_x4 : Int32) (H : Heap) (locs : List Loc) (ls : Array Slot), (∀ q : Nat, (-1) ≤ (fV_member_x4 q).toInt ∧ (fV_member_x4 q).toInt ≤ 15) → (0 ≤ l3_x4.toInt ∧ l3_x4.toInt ≤ 10) → (0 ≤ l2_x4.toInt ∧ l2_x4.toInt ≤ 10) → (MemO fV_member_x4 l2_x4.toInt) → (l2_x4.toInt ≤ l3_x4.toInt) → (10 - l3_x4.toInt < ((n9 : Nat) : Int)) → va_P (dC, dI) vwCl (WV hV aV kV iV_holders iV_rules fV_pairs fV_domain fV_kind fV_a fV_b fV_c fV_rulePairs fV_lastHolder fV_now iV_doneFor iV_changed gV_fore gV_back fV_together fV_member_x4 gV_list dV_list nV_list iV_listed iV_listDone) H → va_D A (WV hV aV kV iV_holders iV_rules fV_pairs fV_domain fV_kind fV_a fV_b fV_c fV_rulePairs fV_lastHolder fV_now iV_doneFor iV_changed gV_fore gV_back fV_together fV_member_x4 gV_list dV_list nV_list iV_listed iV_listDone) → va_S A s.heap H locs → lv_has ls 4 [(3, .int l3_x4), (2, .int l2_x4), (0, .ref (hV 0)), (1, .int p1)] → W p l e _ s m _ below meth c H locs 0 0 _ (F0 m 4 ls [])) => loop (11) fV_member 0 0 _ _ _ b_fV_member (show 0 ≤ (0 : Int32).toInt ∧ (0 : Int32).toInt ≤ 10 from by decide) (show 0 ≤ (0 : Int32).toInt ∧ (0 : Int32).toInt ≤ 10 from by decide) (show MemO fV_member (0 : Int32).toInt from MemO.zero (by decide)) (show (0 : Int32).toInt ≤ (0 : Int32).toInt from by decide) ((by have e9 : (0 : Int32).toInt = 0 := (by decide : (0 : Int32).toInt = 0); omega)) hP hD hS hl) ?_
  intro n9
  induction n9 with
  | zero => intro fV_member_x4 l3_x4 l2_x4 H locs ls b_fV_member_x4 b_l3_x4 b_l2_x4 hMe hle hf9; exact False.elim (by omega)
  | succ n9 ihx4 =>
    intro fV_member_x4 l3_x4 l2_x4 H locs ls b_fV_member_x4 b_l3_x4 b_l2_x4 hMe hle hfx4 hP hD hS hl
    refine lv_iload_n hx hb dX7_takeMembers_4 rfl (lv_at hl 0 rfl) ?_
    refine lv_aload_n hx hb dX7_takeMembers_5 rfl (lv_at hl 2 rfl) ?_
    refine va_get (D := (dC, dI)) (ci := 7) (v := .int iV_holders) (C := RX7) (T := TX7) (N := 20) hx hb hts iwsMX7_takeMembers_in7 hown hK hP 0 rfl rfl 0 (by decide) (hts (.fieldLink RX7 59 "OptimaWorks$ValueDesk" "holders" "I") (by decide +kernel)) (fun _ h9 => h9) rfl dX7_takeMembers_6 ?_
    refine lv_icmp_ge (tgt := 36) hx hb dX7_takeMembers_9 (by decide) (fun c_9 => ?_) (fun c_9 => ?_)
    · have t_9 : l3_x4.toInt ≥ iV_holders.toInt := toI_ge c_9 rfl rfl
      refine lv_iload_n hx hb dX7_takeMembers_36 rfl (lv_at hl 1 rfl) ?_
      refine W.widen (k := 0) (n := 0) (by decide +kernel) (by decide +kernel) ?_
      exact W.iret (v := l2_x4) hx hb hr (fun t9_ ht hW => ⟨⟨l2_x4, fV_member_x4, rfl, ⟨b_fV_member_x4, (b_l2_x4), (by (try dsimp only); exact (hMe))⟩, by rw [ht]; exact hP, hD⟩, hS.F ht⟩) hS.2.2 dX7_takeMembers_37
    · have t_9 : ¬ l3_x4.toInt ≥ iV_holders.toInt := toI_nge c_9 rfl rfl
      refine lv_iload_n hx hb dX7_takeMembers_12 rfl (lv_at hl 3 rfl) ?_
      refine lv_iload_n hx hb dX7_takeMembers_13 rfl (lv_at hl 0 rfl) ?_
      refine lv_ishr hx hb dX7_takeMembers_14 ?_
      refine lv_topi (fun v16 hv16 => ?_)
      clear hv16
      refine lv_iconst (v := 1) hx hb dX7_takeMembers_15 (by decide) ?_
      refine lv_iand hx hb dX7_takeMembers_16 ?_
      refine lv_topi (fun v17 hv17 => ?_)
      have b_v17 : 0 ≤ v17.toInt ∧ v17.toInt ≤ 1 := by rw [hv17]; exact and_rng _ (by decide) (by decide)
      clear hv17
      refine lv_if_eq (tgt := 30) hx hb dX7_takeMembers_17 (by decide) (fun c_17 => ?_) (fun c_17 => ?_)
      · have t_17 : v17.toInt = 0 := toI_eq c_17 rfl (by decide : (0 : Int32).toInt = 0)
        refine lv_iinc (v := (iI (l3_x4.toInt + 1))) hx hb dX7_takeMembers_30 hl (k := 0) rfl (iI_add2 (iI_of _) (by decide : (1 : Int32) = iI 1)) (by decide) rfl (fun ls (hl : lv_has ls _ ([(3, .int (iI (l3_x4.toInt + 1))), (2, .int l2_x4), (0, .ref (hV 0)), (1, .int p1)])) => ?_)
        refine lv_goto (tgt := 4) hx hb dX7_takeMembers_33 (by decide) ?_
        have hl : lv_has _ _ ([(3, .int (iI (l3_x4.toInt + 1))), (2, .int l2_x4), (0, .ref (hV 0)), (1, .int p1)]) := lv_sub hl [0, 1, 2, 3] rfl
        exact ihx4 fV_member_x4 (iI (l3_x4.toInt + 1)) l2_x4 _ _ _ b_fV_member_x4 (iI_rng (Int.le_trans (by decide) (Int.add_le_add (b_l3_x4.1) (Int.le_refl _))) (by omega) (by decide) (by decide)) (b_l2_x4) (show MemO fV_member_x4 l2_x4.toInt from by first | assumption | exact MemO.push hMe (by assumption) (by omega) (by omega) (iI_t (by omega) (by omega))) (show l2_x4.toInt ≤ (iI (l3_x4.toInt + 1)).toInt from by (try rw [iI_t (E := l2_x4.toInt + 1) (by omega) (by omega)]); (try rw [iI_t (by omega) (by omega)]); omega) (by have e9 : ((iI (l3_x4.toInt + 1))).toInt = (l3_x4.toInt + 1) := (iI_t (Int.le_trans (by decide) (Int.add_le_add (b_l3_x4.1) (Int.le_refl _))) (Int.le_trans (Int.add_le_add (b_l3_x4.2) (Int.le_refl _)) (by decide))); omega) hP hD hS hl
      · have t_17 : ¬ v17.toInt = 0 := toI_neq c_17 rfl (by decide : (0 : Int32).toInt = 0)
        refine lv_aload_n hx hb dX7_takeMembers_20 rfl (lv_at hl 2 rfl) ?_
        refine va_get (D := (dC, dI)) (ci := 7) (v := .ref (aV 12)) (C := RX7) (T := TX7) (N := 20) hx hb hts iwsMX7_takeMembers_in7 hown hK hP 0 rfl rfl 16 (by decide) (hts (.fieldLink RX7 53 "OptimaWorks$ValueDesk" "member" "[I") (by decide +kernel)) (fun _ h9 => h9) rfl dX7_takeMembers_21 ?_
        refine lv_iload_n hx hb dX7_takeMembers_24 rfl (lv_at hl 1 rfl) ?_
        refine lv_iload_n hx hb dX7_takeMembers_25 rfl (lv_at hl 0 rfl) ?_
        refine va_iast (cA := kV 12) (n := 10) (f := fV_member_x4) hx hb hK hP hD hS 13 12 rfl rfl (vp_in_iff.mpr ⟨b_l2_x4.1, (by omega)⟩) dX7_takeMembers_26 (fun H locs hP hD hS => ?_)
        obtain ⟨u18, hu18⟩ : ∃ f9, f9 = upd fV_member_x4 (l2_x4).toNatClampNeg l3_x4 := ⟨_, rfl⟩
        have hP : va_P (dC, dI) vwCl (WV hV aV kV iV_holders iV_rules fV_pairs fV_domain fV_kind fV_a fV_b fV_c fV_rulePairs fV_lastHolder fV_now iV_doneFor iV_changed gV_fore gV_back fV_together u18 gV_list dV_list nV_list iV_listed iV_listDone) H := by rw [hu18]; exact hP
        have hD : va_D A (WV hV aV kV iV_holders iV_rules fV_pairs fV_domain fV_kind fV_a fV_b fV_c fV_rulePairs fV_lastHolder fV_now iV_doneFor iV_changed gV_fore gV_back fV_together u18 gV_list dV_list nV_list iV_listed iV_listDone) := by rw [hu18]; exact hD
        have b_u18 : ∀ q : Nat, (-1) ≤ (u18 q).toInt ∧ (u18 q).toInt ≤ 15 := by rw [hu18]; exact upd_r b_fV_member_x4 (⟨Int.le_trans (by decide) b_l3_x4.1, Int.le_trans b_l3_x4.2 (by decide)⟩)
        have b1_u18 : u18 = upd fV_member_x4 (l2_x4).toNatClampNeg l3_x4 := hu18
        clear hu18
        refine lv_iinc (v := (iI (l2_x4.toInt + 1))) hx hb dX7_takeMembers_27 hl (k := 1) rfl (iI_add2 (iI_of _) (by decide : (1 : Int32) = iI 1)) (by decide) rfl (fun ls (hl : lv_has ls _ ([(2, .int (iI (l2_x4.toInt + 1))), (3, .int l3_x4), (0, .ref (hV 0)), (1, .int p1)])) => ?_)
        refine lv_iinc (v := (iI (l3_x4.toInt + 1))) hx hb dX7_takeMembers_30 hl (k := 1) rfl (iI_add2 (iI_of _) (by decide : (1 : Int32) = iI 1)) (by decide) rfl (fun ls (hl : lv_has ls _ ([(3, .int (iI (l3_x4.toInt + 1))), (2, .int (iI (l2_x4.toInt + 1))), (0, .ref (hV 0)), (1, .int p1)])) => ?_)
        refine lv_goto (tgt := 4) hx hb dX7_takeMembers_33 (by decide) ?_
        have hl : lv_has _ _ ([(3, .int (iI (l3_x4.toInt + 1))), (2, .int (iI (l2_x4.toInt + 1))), (0, .ref (hV 0)), (1, .int p1)]) := lv_sub hl [0, 1, 2, 3] rfl
        exact ihx4 u18 (iI (l3_x4.toInt + 1)) (iI (l2_x4.toInt + 1)) _ _ _ b_u18 (iI_rng (Int.le_trans (by decide) (Int.add_le_add (b_l3_x4.1) (Int.le_refl _))) (by omega) (by decide) (by decide)) (iI_rng (Int.le_trans (by decide) (Int.add_le_add (b_l2_x4.1) (Int.le_refl _))) (by omega) (by decide) (by decide)) (show MemO u18 (iI (l2_x4.toInt + 1)).toInt from by first | assumption | exact MemO.push hMe (by assumption) (by omega) (by omega) (iI_t (by omega) (by omega))) (show (iI (l2_x4.toInt + 1)).toInt ≤ (iI (l3_x4.toInt + 1)).toInt from by (try rw [iI_t (E := l2_x4.toInt + 1) (by omega) (by omega)]); (try rw [iI_t (by omega) (by omega)]); omega) (by have e9 : ((iI (l3_x4.toInt + 1))).toInt = (l3_x4.toInt + 1) := (iI_t (Int.le_trans (by decide) (Int.add_le_add (b_l3_x4.1) (Int.le_refl _))) (Int.le_trans (Int.add_le_add (b_l3_x4.2) (Int.le_refl _)) (by decide))); omega) hP hD hS hl
theorem dX7_narrowDifferent_0 : decode cX7_narrowDifferent 0 = .ok (.aload_n 0, 1) := dk_42 (by decide +kernel)
theorem dX7_narrowDifferent_1 : decode cX7_narrowDifferent 1 = .ok (.iload_n 1, 1) := dk_27 (by decide +kernel)
theorem dX7_narrowDifferent_2 : decode cX7_narrowDifferent 2 = .ok (.invokevirtual 138, 3) := dk_182 (by decide +kernel)
theorem dX7_narrowDifferent_5 : decode cX7_narrowDifferent 5 = .ok (.istore_n 2, 1) := dk_61 (by decide +kernel)
theorem dX7_narrowDifferent_6 : decode cX7_narrowDifferent 6 = .ok (.aload_n 0, 1) := dk_42 (by decide +kernel)
theorem dX7_narrowDifferent_7 : decode cX7_narrowDifferent 7 = .ok (.getfield 50, 3) := dk_180 (by decide +kernel)
theorem dX7_narrowDifferent_10 : decode cX7_narrowDifferent 10 = .ok (.iconst 0, 1) := dk_3 (by decide +kernel)
theorem dX7_narrowDifferent_11 : decode cX7_narrowDifferent 11 = .ok (.iconst 0, 1) := dk_3 (by decide +kernel)
theorem dX7_narrowDifferent_12 : decode cX7_narrowDifferent 12 = .ok (.iastore, 1) := dk_79 (by decide +kernel)
theorem dX7_narrowDifferent_13 : decode cX7_narrowDifferent 13 = .ok (.iconst 0, 1) := dk_3 (by decide +kernel)
theorem dX7_narrowDifferent_14 : decode cX7_narrowDifferent 14 = .ok (.istore_n 3, 1) := dk_62 (by decide +kernel)
theorem dX7_narrowDifferent_15 : decode cX7_narrowDifferent 15 = .ok (.iload_n 3, 1) := dk_29 (by decide +kernel)
theorem dX7_narrowDifferent_16 : decode cX7_narrowDifferent 16 = .ok (.iload_n 2, 1) := dk_28 (by decide +kernel)
theorem dX7_narrowDifferent_17 : decode cX7_narrowDifferent 17 = .ok (.if_icmp .ge 56, 3) := dk_162 (by decide +kernel)
theorem dX7_narrowDifferent_20 : decode cX7_narrowDifferent 20 = .ok (.iconst 0, 1) := dk_3 (by decide +kernel)
theorem dX7_narrowDifferent_21 : decode cX7_narrowDifferent 21 = .ok (.istore 4, 2) := dk_54 (by decide +kernel)
theorem dX7_narrowDifferent_23 : decode cX7_narrowDifferent 23 = .ok (.iload 4, 2) := dk_21 (by decide +kernel)
theorem dX7_narrowDifferent_25 : decode cX7_narrowDifferent 25 = .ok (.iconst 1, 1) := dk_4 (by decide +kernel)
theorem dX7_narrowDifferent_26 : decode cX7_narrowDifferent 26 = .ok (.iload_n 3, 1) := dk_29 (by decide +kernel)
theorem dX7_narrowDifferent_27 : decode cX7_narrowDifferent 27 = .ok (.ishl, 1) := dk_120 (by decide +kernel)
theorem dX7_narrowDifferent_28 : decode cX7_narrowDifferent 28 = .ok (.if_icmp .ge 39, 3) := dk_162 (by decide +kernel)
theorem dX7_narrowDifferent_31 : decode cX7_narrowDifferent 31 = .ok (.aload_n 0, 1) := dk_42 (by decide +kernel)
theorem dX7_narrowDifferent_32 : decode cX7_narrowDifferent 32 = .ok (.getfield 50, 3) := dk_180 (by decide +kernel)
theorem dX7_narrowDifferent_35 : decode cX7_narrowDifferent 35 = .ok (.iload 4, 2) := dk_21 (by decide +kernel)
theorem dX7_narrowDifferent_37 : decode cX7_narrowDifferent 37 = .ok (.iconst 1, 1) := dk_4 (by decide +kernel)
theorem dX7_narrowDifferent_38 : decode cX7_narrowDifferent 38 = .ok (.iload_n 3, 1) := dk_29 (by decide +kernel)
theorem dX7_narrowDifferent_39 : decode cX7_narrowDifferent 39 = .ok (.ishl, 1) := dk_120 (by decide +kernel)
theorem dX7_narrowDifferent_40 : decode cX7_narrowDifferent 40 = .ok (.ior, 1) := dk_128 (by decide +kernel)
theorem dX7_narrowDifferent_41 : decode cX7_narrowDifferent 41 = .ok (.aload_n 0, 1) := dk_42 (by decide +kernel)
theorem dX7_narrowDifferent_42 : decode cX7_narrowDifferent 42 = .ok (.getfield 50, 3) := dk_180 (by decide +kernel)
theorem dX7_narrowDifferent_45 : decode cX7_narrowDifferent 45 = .ok (.iload 4, 2) := dk_21 (by decide +kernel)
theorem dX7_narrowDifferent_47 : decode cX7_narrowDifferent 47 = .ok (.iaload, 1) := dk_46 (by decide +kernel)
theorem dX7_narrowDifferent_48 : decode cX7_narrowDifferent 48 = .ok (.aload_n 0, 1) := dk_42 (by decide +kernel)
theorem dX7_narrowDifferent_49 : decode cX7_narrowDifferent 49 = .ok (.getfield 36, 3) := dk_180 (by decide +kernel)
theorem dX7_narrowDifferent_52 : decode cX7_narrowDifferent 52 = .ok (.aload_n 0, 1) := dk_42 (by decide +kernel)
theorem dX7_narrowDifferent_53 : decode cX7_narrowDifferent 53 = .ok (.getfield 53, 3) := dk_180 (by decide +kernel)
theorem dX7_narrowDifferent_56 : decode cX7_narrowDifferent 56 = .ok (.iload_n 3, 1) := dk_29 (by decide +kernel)
theorem dX7_narrowDifferent_57 : decode cX7_narrowDifferent 57 = .ok (.iaload, 1) := dk_46 (by decide +kernel)
theorem dX7_narrowDifferent_58 : decode cX7_narrowDifferent 58 = .ok (.iaload, 1) := dk_46 (by decide +kernel)
theorem dX7_narrowDifferent_59 : decode cX7_narrowDifferent 59 = .ok (.ior, 1) := dk_128 (by decide +kernel)
theorem dX7_narrowDifferent_60 : decode cX7_narrowDifferent 60 = .ok (.iastore, 1) := dk_79 (by decide +kernel)
theorem dX7_narrowDifferent_61 : decode cX7_narrowDifferent 61 = .ok (.iinc 4 1, 3) := dk_132 (by decide +kernel)
theorem dX7_narrowDifferent_64 : decode cX7_narrowDifferent 64 = .ok (.goto (-41), 3) := dk_167 (by decide +kernel)
theorem dX7_narrowDifferent_67 : decode cX7_narrowDifferent 67 = .ok (.iinc 3 1, 3) := dk_132 (by decide +kernel)
theorem dX7_narrowDifferent_70 : decode cX7_narrowDifferent 70 = .ok (.goto (-55), 3) := dk_167 (by decide +kernel)
theorem dX7_narrowDifferent_73 : decode cX7_narrowDifferent 73 = .ok (.iconst 1, 1) := dk_4 (by decide +kernel)
theorem dX7_narrowDifferent_74 : decode cX7_narrowDifferent 74 = .ok (.istore_n 3, 1) := dk_62 (by decide +kernel)
theorem dX7_narrowDifferent_75 : decode cX7_narrowDifferent 75 = .ok (.iload_n 3, 1) := dk_29 (by decide +kernel)
theorem dX7_narrowDifferent_76 : decode cX7_narrowDifferent 76 = .ok (.iconst 1, 1) := dk_4 (by decide +kernel)
theorem dX7_narrowDifferent_77 : decode cX7_narrowDifferent 77 = .ok (.iload_n 2, 1) := dk_28 (by decide +kernel)
theorem dX7_narrowDifferent_78 : decode cX7_narrowDifferent 78 = .ok (.ishl, 1) := dk_120 (by decide +kernel)
theorem dX7_narrowDifferent_79 : decode cX7_narrowDifferent 79 = .ok (.if_icmp .ge 87, 3) := dk_162 (by decide +kernel)
theorem dX7_narrowDifferent_82 : decode cX7_narrowDifferent 82 = .ok (.aload_n 0, 1) := dk_42 (by decide +kernel)
theorem dX7_narrowDifferent_83 : decode cX7_narrowDifferent 83 = .ok (.getfield 50, 3) := dk_180 (by decide +kernel)
theorem dX7_narrowDifferent_86 : decode cX7_narrowDifferent 86 = .ok (.iload_n 3, 1) := dk_29 (by decide +kernel)
theorem dX7_narrowDifferent_87 : decode cX7_narrowDifferent 87 = .ok (.iaload, 1) := dk_46 (by decide +kernel)
theorem dX7_narrowDifferent_88 : decode cX7_narrowDifferent 88 = .ok (.invokestatic 141, 3) := dk_184 (by decide +kernel)
theorem dX7_narrowDifferent_91 : decode cX7_narrowDifferent 91 = .ok (.iload_n 3, 1) := dk_29 (by decide +kernel)
theorem dX7_narrowDifferent_92 : decode cX7_narrowDifferent 92 = .ok (.invokestatic 141, 3) := dk_184 (by decide +kernel)
theorem dX7_narrowDifferent_95 : decode cX7_narrowDifferent 95 = .ok (.isub, 1) := dk_100 (by decide +kernel)
theorem dX7_narrowDifferent_96 : decode cX7_narrowDifferent 96 = .ok (.istore 4, 2) := dk_54 (by decide +kernel)
theorem dX7_narrowDifferent_98 : decode cX7_narrowDifferent 98 = .ok (.iconst 0, 1) := dk_3 (by decide +kernel)
theorem dX7_narrowDifferent_99 : decode cX7_narrowDifferent 99 = .ok (.istore 5, 2) := dk_54 (by decide +kernel)
theorem dX7_narrowDifferent_101 : decode cX7_narrowDifferent 101 = .ok (.iload 5, 2) := dk_21 (by decide +kernel)
theorem dX7_narrowDifferent_103 : decode cX7_narrowDifferent 103 = .ok (.iload_n 2, 1) := dk_28 (by decide +kernel)
theorem dX7_narrowDifferent_104 : decode cX7_narrowDifferent 104 = .ok (.if_icmp .ge 56, 3) := dk_162 (by decide +kernel)
theorem dX7_narrowDifferent_107 : decode cX7_narrowDifferent 107 = .ok (.iload 4, 2) := dk_21 (by decide +kernel)
theorem dX7_narrowDifferent_109 : decode cX7_narrowDifferent 109 = .ok (.ifCond .gt 51, 3) := dk_157 (by decide +kernel)
theorem dX7_narrowDifferent_112 : decode cX7_narrowDifferent 112 = .ok (.iload 4, 2) := dk_21 (by decide +kernel)
theorem dX7_narrowDifferent_114 : decode cX7_narrowDifferent 114 = .ok (.ifCond .lt 12, 3) := dk_155 (by decide +kernel)
theorem dX7_narrowDifferent_117 : decode cX7_narrowDifferent 117 = .ok (.iload_n 3, 1) := dk_29 (by decide +kernel)
theorem dX7_narrowDifferent_118 : decode cX7_narrowDifferent 118 = .ok (.iload 5, 2) := dk_21 (by decide +kernel)
theorem dX7_narrowDifferent_120 : decode cX7_narrowDifferent 120 = .ok (.ishr, 1) := dk_122 (by decide +kernel)
theorem dX7_narrowDifferent_121 : decode cX7_narrowDifferent 121 = .ok (.iconst 1, 1) := dk_4 (by decide +kernel)
theorem dX7_narrowDifferent_122 : decode cX7_narrowDifferent 122 = .ok (.iand, 1) := dk_126 (by decide +kernel)
theorem dX7_narrowDifferent_123 : decode cX7_narrowDifferent 123 = .ok (.ifCond .ne 31, 3) := dk_154 (by decide +kernel)
theorem dX7_narrowDifferent_126 : decode cX7_narrowDifferent 126 = .ok (.aload_n 0, 1) := dk_42 (by decide +kernel)
theorem dX7_narrowDifferent_127 : decode cX7_narrowDifferent 127 = .ok (.aload_n 0, 1) := dk_42 (by decide +kernel)
theorem dX7_narrowDifferent_128 : decode cX7_narrowDifferent 128 = .ok (.getfield 53, 3) := dk_180 (by decide +kernel)
theorem dX7_narrowDifferent_131 : decode cX7_narrowDifferent 131 = .ok (.iload 5, 2) := dk_21 (by decide +kernel)
theorem dX7_narrowDifferent_133 : decode cX7_narrowDifferent 133 = .ok (.iaload, 1) := dk_46 (by decide +kernel)
theorem dX7_narrowDifferent_134 : decode cX7_narrowDifferent 134 = .ok (.iload 4, 2) := dk_21 (by decide +kernel)
theorem dX7_narrowDifferent_136 : decode cX7_narrowDifferent 136 = .ok (.ifCond .ge 7, 3) := dk_156 (by decide +kernel)
theorem dX7_narrowDifferent_139 : decode cX7_narrowDifferent 139 = .ok (.iconst 0, 1) := dk_3 (by decide +kernel)
theorem dX7_narrowDifferent_140 : decode cX7_narrowDifferent 140 = .ok (.goto 11, 3) := dk_167 (by decide +kernel)
theorem dX7_narrowDifferent_143 : decode cX7_narrowDifferent 143 = .ok (.aload_n 0, 1) := dk_42 (by decide +kernel)
theorem dX7_narrowDifferent_144 : decode cX7_narrowDifferent 144 = .ok (.getfield 50, 3) := dk_180 (by decide +kernel)
theorem dX7_narrowDifferent_147 : decode cX7_narrowDifferent 147 = .ok (.iload_n 3, 1) := dk_29 (by decide +kernel)
theorem dX7_narrowDifferent_148 : decode cX7_narrowDifferent 148 = .ok (.iaload, 1) := dk_46 (by decide +kernel)
theorem dX7_narrowDifferent_149 : decode cX7_narrowDifferent 149 = .ok (.iconst (-1), 1) := dk_2 (by decide +kernel)
theorem dX7_narrowDifferent_150 : decode cX7_narrowDifferent 150 = .ok (.ixor, 1) := dk_130 (by decide +kernel)
theorem dX7_narrowDifferent_151 : decode cX7_narrowDifferent 151 = .ok (.invokevirtual 146, 3) := dk_182 (by decide +kernel)
theorem dX7_narrowDifferent_154 : decode cX7_narrowDifferent 154 = .ok (.iinc 5 1, 3) := dk_132 (by decide +kernel)
theorem dX7_narrowDifferent_157 : decode cX7_narrowDifferent 157 = .ok (.goto (-56), 3) := dk_167 (by decide +kernel)
theorem dX7_narrowDifferent_160 : decode cX7_narrowDifferent 160 = .ok (.iinc 3 1, 3) := dk_132 (by decide +kernel)
theorem dX7_narrowDifferent_163 : decode cX7_narrowDifferent 163 = .ok (.goto (-88), 3) := dk_167 (by decide +kernel)
theorem dX7_narrowDifferent_166 : decode cX7_narrowDifferent 166 = .ok (.return_, 1) := dk_177 (by decide +kernel)
def wsMX7_narrowDifferent : List Cond := .code yX7_narrowDifferent cX7_narrowDifferent 6 none :: ([.fieldLink RX7 50 "OptimaWorks$ValueDesk" "together" "[I", .fieldLink RX7 36 "OptimaWorks$ValueDesk" "now" "[I", .fieldLink RX7 53 "OptimaWorks$ValueDesk" "member" "[I"] ++ wsX70 ++ (wsV RX7 138 RX7 yX7_takeMembers wsMX7_takeMembers) ++ (va_wsS RX7 141 yJ6_bitCount_0f7a4 wsMJ6_bitCount_0f7a4) ++ (wsV RX7 146 RX7 yX7_cutTo wsMX7_cutTo))
theorem iwsMX7_narrowDifferent_in7 : ∀ w ∈ wsX70, w ∈ wsMX7_narrowDifferent := fun _ h => List.mem_cons_of_mem _ (List.mem_append_left _ (List.mem_append_left _ (List.mem_append_left _ (List.mem_append_right _ h))))
theorem gwsMX7_narrowDifferent_0 : GoodIn wsMX7_narrowDifferent (wsV RX7 138 RX7 yX7_takeMembers wsMX7_takeMembers) := goodIn_sub (fun _ h => List.mem_cons_of_mem _ (List.mem_append_left _ (List.mem_append_left _ (List.mem_append_right _ h)))) (gdV (by decide +kernel) gdwsMX7_takeMembers)
theorem gwsMX7_narrowDifferent_1 : GoodIn wsMX7_narrowDifferent (va_wsS RX7 141 yJ6_bitCount_0f7a4 wsMJ6_bitCount_0f7a4) := goodIn_sub (fun _ h => List.mem_cons_of_mem _ (List.mem_append_left _ (List.mem_append_right _ h))) (gdS (by decide +kernel) gdwsMJ6_bitCount_0f7a4)
theorem gwsMX7_narrowDifferent_2 : GoodIn wsMX7_narrowDifferent (wsV RX7 146 RX7 yX7_cutTo wsMX7_cutTo) := goodIn_sub (fun _ h => List.mem_cons_of_mem _ (List.mem_append_right _ h)) (gdV (by decide +kernel) gdwsMX7_cutTo)
theorem gdwsMX7_narrowDifferent : wsMX7_narrowDifferent.all goodWord = true := gdC rfl (gdA (gdA (gdA (gdA (by decide +kernel : ([.fieldLink RX7 50 "OptimaWorks$ValueDesk" "together" "[I", .fieldLink RX7 36 "OptimaWorks$ValueDesk" "now" "[I", .fieldLink RX7 53 "OptimaWorks$ValueDesk" "member" "[I"] : List Cond).all goodWord = true) gdwsX70) (gdV (by decide +kernel) gdwsMX7_takeMembers)) (gdS (by decide +kernel) gdwsMJ6_bitCount_0f7a4)) (gdV (by decide +kernel) gdwsMX7_cutTo))
theorem hm_m_X7_narrowDifferent_0 : (.fieldLink RX7 50 "OptimaWorks$ValueDesk" "together" "[I" : Cond) ∈ wsMX7_narrowDifferent := by decide +kernel
theorem hm_m_X7_narrowDifferent_1 : (.fieldLink RX7 53 "OptimaWorks$ValueDesk" "member" "[I" : Cond) ∈ wsMX7_narrowDifferent := by decide +kernel
set_option maxHeartbeats 4000000 in
set_option maxRecDepth 100000 in
/-- all different -/
theorem m_X7_narrowDifferent (l : Launch) (dC : Nat → ClassId) (dI : Nat → Nat → Nat) (hV : Nat → Nat) (aV : Nat → Nat) (kV : Nat → ClassId) (iV_holders : Int32) (iV_rules : Int32) (fV_pairs : Nat → Int32) (fV_domain : Nat → Int32) (fV_kind : Nat → Int32) (fV_a : Nat → Int32) (fV_b : Nat → Int32) (fV_c : Nat → Int32) (fV_rulePairs : Nat → Int32) (fV_lastHolder : Nat → Int32) (fV_now : Nat → Int32) (iV_doneFor : Int32) (iV_changed : Int32) (gV_fore : Nat → Int64) (gV_back : Nat → Int64) (fV_together : Nat → Int32) (fV_member : Nat → Int32) (gV_list : Nat → Int64) (dV_list : Nat) (nV_list : Nat) (iV_listed : Int32) (iV_listDone : Int32) (p1 : Int32) (b_iV_holders : 0 ≤ iV_holders.toInt ∧ iV_holders.toInt ≤ 10) (b_iV_rules : 0 ≤ iV_rules.toInt ∧ iV_rules.toInt ≤ 12) (b_fV_kind : ∀ q : Nat, 0 ≤ (fV_kind q).toInt ∧ (fV_kind q).toInt ≤ 4) (b_iV_changed : 0 ≤ iV_changed.toInt ∧ iV_changed.toInt ≤ 1) (b_fV_member : ∀ q : Nat, (-1) ≤ (fV_member q).toInt ∧ (fV_member q).toInt ≤ 15) (b_nV_list : 0 ≤ nV_list ∧ nV_list ≤ 20000) (b_iV_listed : (-1) ≤ iV_listed.toInt ∧ iV_listed.toInt ≤ 5000) (b_iV_listDone : 0 ≤ iV_listDone.toInt ∧ iV_listDone.toInt ≤ 1) (b_RuV : RuV fV_kind fV_a fV_b fV_c fV_lastHolder) (b_lst : iV_listed.toInt ≤ ((nV_list : Nat) : Int)) (sz : Nat) : Met l yX7_narrowDifferent wsMX7_narrowDifferent ({ frames := 1, cells := 0, slots := 0, locals := 23 }) (va_Pc [.ref (hV 0), .int p1] (fun U => U.heap.size = sz ∧ va_P (dC, dI) vwCl (WV hV aV kV iV_holders iV_rules fV_pairs fV_domain fV_kind fV_a fV_b fV_c fV_rulePairs fV_lastHolder fV_now iV_doneFor iV_changed gV_fore gV_back fV_together fV_member gV_list dV_list nV_list iV_listed iV_listDone) U.heap ∧ va_K (dC, dI) vwCl (tV kV) U ∧ va_D (fun _ => True) (WV hV aV kV iV_holders iV_rules fV_pairs fV_domain fV_kind fV_a fV_b fV_c fV_rulePairs fV_lastHolder fV_now iV_doneFor iV_changed gV_fore gV_back fV_together fV_member gV_list dV_list nV_list iV_listed iV_listDone))) (va_Qv (fun (u : (Nat → Int32) × (Int32) × (Nat → Int32) × (Nat → Int32)) => (0 ≤ (u.2.1).toInt ∧ (u.2.1).toInt ≤ 1) ∧ (∀ q : Nat, (-1) ≤ ((u.2.2.2) q).toInt ∧ ((u.2.2.2) q).toInt ≤ 15)) (fun (u : (Nat → Int32) × (Int32) × (Nat → Int32) × (Nat → Int32)) t => va_P (dC, dI) vwCl (WV hV aV kV iV_holders iV_rules fV_pairs fV_domain fV_kind fV_a fV_b fV_c fV_rulePairs fV_lastHolder (u.1) iV_doneFor (u.2.1) gV_fore gV_back (u.2.2.1) (u.2.2.2) gV_list dV_list nV_list iV_listed iV_listDone) t.heap ∧ va_D (va_A (WV hV aV kV iV_holders iV_rules fV_pairs fV_domain fV_kind fV_a fV_b fV_c fV_rulePairs fV_lastHolder fV_now iV_doneFor iV_changed gV_fore gV_back fV_together fV_member gV_list dV_list nV_list iV_listed iV_listDone) sz) (WV hV aV kV iV_holders iV_rules fV_pairs fV_domain fV_kind fV_a fV_b fV_c fV_rulePairs fV_lastHolder (u.1) iV_doneFor (u.2.1) gV_fore gV_back (u.2.2.1) (u.2.2.2) gV_list dV_list nV_list iV_listed iV_listDone)) (va_A (WV hV aV kV iV_holders iV_rules fV_pairs fV_domain fV_kind fV_a fV_b fV_c fV_rulePairs fV_lastHolder fV_now iV_doneFor iV_changed gV_fore gV_back fV_together fV_member gV_list dV_list nV_list iV_listed iV_listDone) sz)) 0 0 (va_A (WV hV aV kV iV_holders iV_rules fV_pairs fV_domain fV_kind fV_a fV_b fV_c fV_rulePairs fV_lastHolder fV_now iV_doneFor iV_changed gV_fore gV_back fV_together fV_member gV_list dV_list nV_list iV_listed iV_listDone) sz) := by
  refine Met.ofW (cc := cX7_narrowDifferent) (maxL := 6) (ret := none) (by decide) rfl ?_
  intro p e s m args below meth c s₁ B hml hv
  obtain ⟨rfl, hsz, hP, hK, hD0⟩ := hv
  have hx := B.exec
  have hb := B.bytes
  have hr := B.returns
  have hts := atoms_spec (ws := wsMX7_narrowDifferent) B.pre
  have hown : s.vm.findClass RX7 = some m.cls := findClass_of_methodNamed B.named
  have hlocks := B.notSynchronized
  subst hsz
  have hD := hD0.self (sz := s.heap.size)
  generalize hAe : va_A (WV hV aV kV iV_holders iV_rules fV_pairs fV_domain fV_kind fV_a fV_b fV_c fV_rulePairs fV_lastHolder fV_now iV_doneFor iV_changed gV_fore gV_back fV_together fV_member gV_list dV_list nV_list iV_listed iV_listDone) s.heap.size = A at hD ⊢
  have hA : ∀ q : Nat, s.heap.size ≤ q → A q := fun q h => by rw [← hAe]; exact Or.inr h
  have hS : va_S A s.heap s.heap [] := va_S.rf
  have hl := lv_entry ([.ref (hV 0), .int p1]) (n := 6) (Nat.le_of_ble_eq_true rfl)
  rw [lg_entry_eq]
  generalize (lg_sl ([.ref (hV 0), .int p1]) ++ List.replicate (6 - (lg_sl ([.ref (hV 0), .int p1])).length) Slot.unset).toArray = ls at hl ⊢
  have hl : lv_has ls 6 [(0, .ref (hV 0)), (1, .int p1)] := hl
  refine lv_aload_n hx hb dX7_narrowDifferent_0 rfl (lv_at hl 0 rfl) ?_
  refine lv_iload_n hx hb dX7_narrowDifferent_1 rfl (lv_at hl 1 rfl) ?_
  have hFc := allFree hD hS hA
  refine va_calli (va_runV (As := [.int p1]) (rest := []) ⟨hx, hb, hml, hown, hts⟩ (m_X7_takeMembers l dC dI hV aV kV iV_holders iV_rules fV_pairs fV_domain fV_kind fV_a fV_b fV_c fV_rulePairs fV_lastHolder fV_now iV_doneFor iV_changed gV_fore gV_back fV_together fV_member gV_list dV_list nV_list iV_listed iV_listDone p1 (b_iV_holders) (b_iV_rules) b_fV_kind (b_iV_changed) b_fV_member (by first | exact b_nV_list | with_reducible assumption | exact ⟨by omega, by omega⟩ | assumption) (b_iV_listed) (b_iV_listDone) (by first | with_reducible assumption | omega | assumption) (by first | with_reducible assumption | omega | assumption) s.heap.size) (cwV 1 hts gwsMX7_narrowDifferent_0 rfl rfl rfl hd_yX7_takeMembers_RX7 (by decide +kernel)) (fz_pre (va_recv hK hP (ci := 7) (q0 := 0) rfl rfl) hP hK hD) rfl rfl hl.1 rfl (lv_room (Nat.le_of_ble_eq_true rfl)) dX7_narrowDifferent_2 (by decide +kernel)) hS (fun q _ h => hFc q h) hFc (fun r1 fV_member_1 t9_ H locs ht hvm hw9 hB9 hz1 hk1 hS => ?_)
  revert hw9
  refine fz_a3 ?_
  intro b_fV_member_1 b_r1 f1_0
  have hP : va_P (dC, dI) vwCl (WV hV aV kV iV_holders iV_rules fV_pairs fV_domain fV_kind fV_a fV_b fV_c fV_rulePairs fV_lastHolder fV_now iV_doneFor iV_changed gV_fore gV_back fV_together fV_member_1 gV_list dV_list nV_list iV_listed iV_listDone) H := fz_P ht hB9.1
  have hD := fz_sd hP (hB9.2.weaken (fun _ q _ h => hFc q.1 h)) rfl
  have hMe := f1_0
  refine lv_istore_n hx hb dX7_narrowDifferent_5 rfl hl (by decide) rfl (fun ls (hl : lv_has ls _ ([(2, .int r1), (0, .ref (hV 0)), (1, .int p1)])) => ?_)
  refine lv_aload_n hx hb dX7_narrowDifferent_6 rfl (lv_at hl 1 rfl) ?_
  refine va_get (D := (dC, dI)) (ci := 7) (v := .ref (aV 11)) (C := RX7) (T := TX7) (N := 20) hx hb hts iwsMX7_narrowDifferent_in7 hown hK hP 0 rfl rfl 15 (by decide) (hts _ hm_m_X7_narrowDifferent_0) (fun _ h9 => h9) rfl dX7_narrowDifferent_7 ?_
  refine lv_iconst (v := 0) hx hb dX7_narrowDifferent_10 (by decide) ?_
  refine lv_iconst (v := 0) hx hb dX7_narrowDifferent_11 (by decide) ?_
  refine va_iast (cA := kV 11) (n := 1024) (f := fV_together) hx hb hK hP hD hS 12 11 rfl rfl (show ¬ ((0 : Int32) < 0 ∨ 1024 ≤ (0 : Int32).toNatClampNeg) by decide) dX7_narrowDifferent_12 (fun H locs hP hD hS => ?_)
  obtain ⟨u2, hu2⟩ : ∃ f9, f9 = upd fV_together (0 : Int32).toNatClampNeg (0 : Int32) := ⟨_, rfl⟩
  have hP : va_P (dC, dI) vwCl (WV hV aV kV iV_holders iV_rules fV_pairs fV_domain fV_kind fV_a fV_b fV_c fV_rulePairs fV_lastHolder fV_now iV_doneFor iV_changed gV_fore gV_back u2 fV_member_1 gV_list dV_list nV_list iV_listed iV_listDone) H := by rw [hu2]; exact hP
  have hD : va_D A (WV hV aV kV iV_holders iV_rules fV_pairs fV_domain fV_kind fV_a fV_b fV_c fV_rulePairs fV_lastHolder fV_now iV_doneFor iV_changed gV_fore gV_back u2 fV_member_1 gV_list dV_list nV_list iV_listed iV_listDone) := by rw [hu2]; exact hD
  clear hu2
  refine lv_iconst (v := 0) hx hb dX7_narrowDifferent_13 (by decide) ?_
  refine lv_istore_n hx hb dX7_narrowDifferent_14 rfl hl (by decide) rfl (fun ls (hl : lv_has ls _ ([(3, .int 0), (2, .int r1), (0, .ref (hV 0)), (1, .int p1)])) => ?_)
  have hl : lv_has _ _ ([(3, .int 0), (2, .int r1), (0, .ref (hV 0)), (1, .int p1)]) := lv_sub hl [0, 1, 2, 3] rfl
  refine (fun (loop : ∀ (n9 : Nat) (fV_together_x15 : Nat → Int32) (l3_x15 : Int32) (H : Heap) (locs : List Loc) (ls : Array Slot), (0 ≤ l3_x15.toInt ∧ l3_x15.toInt ≤ 10) → (10 - l3_x15.toInt < ((n9 : Nat) : Int)) → va_P (dC, dI) vwCl (WV hV aV kV iV_holders iV_rules fV_pairs fV_domain fV_kind fV_a fV_b fV_c fV_rulePairs fV_lastHolder fV_now iV_doneFor iV_changed gV_fore gV_back fV_together_x15 fV_member_1 gV_list dV_list nV_list iV_listed iV_listDone) H → va_D A (WV hV aV kV iV_holders iV_rules fV_pairs fV_domain fV_kind fV_a fV_b fV_c fV_rulePairs fV_lastHolder fV_now iV_doneFor iV_changed gV_fore gV_back fV_together_x15 fV_member_1 gV_list dV_list nV_list iV_listed iV_listDone) → va_S A s.heap H locs → lv_has ls 6 [(3, .int l3_x15), (2, .int r1), (0, .ref (hV 0)), (1, .int p1)] → W p l e _ s m _ below meth c H locs 0 0 _ (F0 m 15 ls [])) => loop (11) u2 0 _ _ _ (show 0 ≤ (0 : Int32).toInt ∧ (0 : Int32).toInt ≤ 10 from by decide) ((by have e9 : (0 : Int32).toInt = 0 := (by decide : (0 : Int32).toInt = 0); omega)) hP hD hS hl) ?_
  intro n9
  induction n9 with
  | zero => intro fV_together_x15 l3_x15 H locs ls b_l3_x15 hf9; exact False.elim (by omega)
  | succ n9 ihx15 =>
    intro fV_together_x15 l3_x15 H locs ls b_l3_x15 hfx15 hP hD hS hl
    refine lv_iload_n hx hb dX7_narrowDifferent_15 rfl (lv_at hl 0 rfl) ?_
    refine lv_iload_n hx hb dX7_narrowDifferent_16 rfl (lv_at hl 1 rfl) ?_
    refine lv_icmp_ge (tgt := 73) hx hb dX7_narrowDifferent_17 (by decide) (fun c_17 => ?_) (fun c_17 => ?_)
    · have t_17 : l3_x15.toInt ≥ r1.toInt := toI_ge c_17 rfl rfl
      refine lv_iconst (v := 1) hx hb dX7_narrowDifferent_73 (by decide) ?_
      refine lv_istore_n hx hb dX7_narrowDifferent_74 rfl hl (by decide) rfl (fun ls (hl : lv_has ls _ ([(3, .int 1), (2, .int r1), (0, .ref (hV 0)), (1, .int p1)])) => ?_)
      have hl : lv_has _ _ ([(3, .int 1), (2, .int r1), (0, .ref (hV 0)), (1, .int p1)]) := lv_sub hl [0, 1, 2, 3] rfl
      refine (fun (loop : ∀ (n9 : Nat) (fV_now_x75 : Nat → Int32) (iV_changed_x75 : Int32) (l3_x75 : Int32) (H : Heap) (locs : List Loc) (ls : Array Slot), (0 ≤ iV_changed_x75.toInt ∧ iV_changed_x75.toInt ≤ 1) → (0 ≤ l3_x75.toInt ∧ l3_x75.toInt ≤ 1024) → (1024 - l3_x75.toInt < ((n9 : Nat) : Int)) → va_P (dC, dI) vwCl (WV hV aV kV iV_holders iV_rules fV_pairs fV_domain fV_kind fV_a fV_b fV_c fV_rulePairs fV_lastHolder fV_now_x75 iV_doneFor iV_changed_x75 gV_fore gV_back fV_together_x15 fV_member_1 gV_list dV_list nV_list iV_listed iV_listDone) H → va_D A (WV hV aV kV iV_holders iV_rules fV_pairs fV_domain fV_kind fV_a fV_b fV_c fV_rulePairs fV_lastHolder fV_now_x75 iV_doneFor iV_changed_x75 gV_fore gV_back fV_together_x15 fV_member_1 gV_list dV_list nV_list iV_listed iV_listDone) → va_S A s.heap H locs → lv_has ls 6 [(3, .int l3_x75), (2, .int r1), (0, .ref (hV 0)), (1, .int p1)] → W p l e _ s m _ below meth c H locs 0 0 _ (F0 m 75 ls [])) => loop (1025) fV_now iV_changed 1 _ _ _ (b_iV_changed) (show 0 ≤ (1 : Int32).toInt ∧ (1 : Int32).toInt ≤ 1024 from by decide) ((by have e9 : (1 : Int32).toInt = 1 := (by decide : (1 : Int32).toInt = 1); omega)) hP hD hS hl) ?_
      intro n9
      induction n9 with
      | zero => intro fV_now_x75 iV_changed_x75 l3_x75 H locs ls b_iV_changed_x75 b_l3_x75 hf9; exact False.elim (by omega)
      | succ n9 ihx75 =>
        intro fV_now_x75 iV_changed_x75 l3_x75 H locs ls b_iV_changed_x75 b_l3_x75 hfx75 hP hD hS hl
        refine lv_iload_n hx hb dX7_narrowDifferent_75 rfl (lv_at hl 0 rfl) ?_
        refine lv_iconst (v := 1) hx hb dX7_narrowDifferent_76 (by decide) ?_
        refine lv_iload_n hx hb dX7_narrowDifferent_77 rfl (lv_at hl 1 rfl) ?_
        refine lv_ishl hx hb dX7_narrowDifferent_78 ?_
        refine lv_topi (fun v2830 hv2830 => ?_)
        have b_v2830 : 1 ≤ v2830.toInt ∧ v2830.toInt ≤ 1024 := by rw [hv2830]; exact shl1_t (k := 10) rfl (by omega) (by omega) (by decide)
        clear hv2830
        refine lv_icmp_ge (tgt := 166) hx hb dX7_narrowDifferent_79 (by decide) (fun c_79 => ?_) (fun c_79 => ?_)
        · have t_79 : l3_x75.toInt ≥ v2830.toInt := toI_ge c_79 rfl rfl
          refine W.widen (k := 0) (n := 0) (by decide +kernel) (by decide +kernel) ?_
          exact W.vret hx hb hr (fun t9_ ht hW => ⟨⟨(fV_now_x75, iV_changed_x75, fV_together_x15, fV_member_1), rfl, ⟨b_iV_changed_x75, b_fV_member_1⟩, by rw [ht]; exact hP, hD⟩, hS.F ht⟩) hS.2.2 dX7_narrowDifferent_166
        · have t_79 : ¬ l3_x75.toInt ≥ v2830.toInt := toI_nge c_79 rfl rfl
          refine lv_aload_n hx hb dX7_narrowDifferent_82 rfl (lv_at hl 2 rfl) ?_
          refine va_get (D := (dC, dI)) (ci := 7) (v := .ref (aV 11)) (C := RX7) (T := TX7) (N := 20) hx hb hts iwsMX7_narrowDifferent_in7 hown hK hP 0 rfl rfl 15 (by decide) (hts _ hm_m_X7_narrowDifferent_0) (fun _ h9 => h9) rfl dX7_narrowDifferent_83 ?_
          refine lv_iload_n hx hb dX7_narrowDifferent_86 rfl (lv_at hl 0 rfl) ?_
          refine va_iald (cA := kV 11) (n := 1024) (f := fV_together_x15) hx hb hK hP 12 11 rfl rfl (vp_in_iff.mpr ⟨b_l3_x75.1, (Int.lt_of_lt_of_le (Int.not_le.mp t_79) (Int.le_trans b_v2830.2 (by decide)))⟩) dX7_narrowDifferent_87 ?_
          refine lv_topi (fun v3003 hv3003 => ?_)
          clear hv3003
          have hFc := noneFree hS hA
          refine va_calli (va_runS (As := [.int v3003]) (rest := []) ⟨hx, hb, hml, hown, hts⟩ (m_J6_bitCount_0f7a4 l dC dI v3003 H.size) (va_cwS 1 hts gwsMX7_narrowDifferent_1 rfl rfl rfl (by decide +kernel) ⟨by decide +kernel, by decide +kernel⟩) ⟨fun a U g mk q => by obtain ⟨q0, q1, qP, qK, qD⟩ := q; exact ⟨q0, q1, qP, va_K.moved (u := U) (U := U.calling g mk a) (Vm.Alike.refl U.vm) qK, qD⟩, fun U hU9 hW => ⟨rfl, by rw [hU9], by rw [hU9]; exact nilP, va_K.moved hW.alike (hK.sub (tys' := []) [] rfl), nilD⟩⟩ rfl rfl hl.1 rfl (lv_room (Nat.le_of_ble_eq_true rfl)) dX7_narrowDifferent_88 (by decide +kernel)) hS (fun q _ h => hFc q h) hFc (fun r3004 u t9_ H1 locs ht hvm hw9 hB9 hz1 hk1 hS => ?_)
          revert hw9
          refine fz_a2 ?_
          intro b_r3004 f3004_0
          clear hB9
          have hP := keepAll hP hk1
          generalize H1 = H at hP hS ⊢
          have hP : va_P (dC, dI) vwCl (WV hV aV kV iV_holders iV_rules fV_pairs fV_domain fV_kind fV_a fV_b fV_c fV_rulePairs fV_lastHolder fV_now_x75 iV_doneFor iV_changed_x75 gV_fore gV_back fV_together_x15 fV_member_1 gV_list dV_list nV_list iV_listed iV_listDone) H := hP
          have hD := fz_sd hP (hD) rfl
          refine lv_iload_n hx hb dX7_narrowDifferent_91 rfl (lv_at hl 0 rfl) ?_
          have hFc := noneFree hS hA
          refine va_calli (va_runS (As := [.int l3_x75]) (rest := [.int r3004]) ⟨hx, hb, hml, hown, hts⟩ (m_J6_bitCount_0f7a4 l dC dI l3_x75 H.size) (va_cwS 1 hts gwsMX7_narrowDifferent_1 rfl rfl rfl (by decide +kernel) ⟨by decide +kernel, by decide +kernel⟩) ⟨fun a U g mk q => by obtain ⟨q0, q1, qP, qK, qD⟩ := q; exact ⟨q0, q1, qP, va_K.moved (u := U) (U := U.calling g mk a) (Vm.Alike.refl U.vm) qK, qD⟩, fun U hU9 hW => ⟨rfl, by rw [hU9], by rw [hU9]; exact nilP, va_K.moved hW.alike (hK.sub (tys' := []) [] rfl), nilD⟩⟩ rfl rfl hl.1 rfl (lv_room (Nat.le_of_ble_eq_true rfl)) dX7_narrowDifferent_92 (by decide +kernel)) hS (fun q _ h => hFc q h) hFc (fun r3005 u t9_ H1 locs ht hvm hw9 hB9 hz1 hk1 hS => ?_)
          revert hw9
          refine fz_a2 ?_
          intro b_r3005 f3005_0
          clear hB9
          have hP := keepAll hP hk1
          generalize H1 = H at hP hS ⊢
          have hP : va_P (dC, dI) vwCl (WV hV aV kV iV_holders iV_rules fV_pairs fV_domain fV_kind fV_a fV_b fV_c fV_rulePairs fV_lastHolder fV_now_x75 iV_doneFor iV_changed_x75 gV_fore gV_back fV_together_x15 fV_member_1 gV_list dV_list nV_list iV_listed iV_listDone) H := hP
          have hD := fz_sd hP (hD) rfl
          refine lv_isub hx hb dX7_narrowDifferent_95 ?_
          refine lv_topi (fun y3006 hy3006 => ?_)
          obtain rfl : (iI (r3004.toInt - r3005.toInt)) = y3006 := (hy3006.trans (iI_sub2 (iI_of _) (iI_of _))).symm
          refine lv_istore hx hb dX7_narrowDifferent_96 hl (by decide) rfl (fun ls (hl : lv_has ls _ ([(4, .int (iI (r3004.toInt - r3005.toInt))), (3, .int l3_x75), (2, .int r1), (0, .ref (hV 0)), (1, .int p1)])) => ?_)
          refine lv_iconst (v := 0) hx hb dX7_narrowDifferent_98 (by decide) ?_
          refine lv_istore hx hb dX7_narrowDifferent_99 hl (by decide) rfl (fun ls (hl : lv_has ls _ ([(5, .int 0), (4, .int (iI (r3004.toInt - r3005.toInt))), (3, .int l3_x75), (2, .int r1), (0, .ref (hV 0)), (1, .int p1)])) => ?_)
          have hl : lv_has _ _ ([(5, .int 0), (4, .int (iI (r3004.toInt - r3005.toInt))), (3, .int l3_x75), (2, .int r1), (0, .ref (hV 0)), (1, .int p1)]) := lv_sub hl [0, 1, 2, 3, 4, 5] rfl
          refine (fun (loop : ∀ (n9 : Nat) (fV_now_x101 : Nat → Int32) (iV_changed_x101 : Int32) (l5_x101 : Int32) (H : Heap) (locs : List Loc) (ls : Array Slot), (0 ≤ iV_changed_x101.toInt ∧ iV_changed_x101.toInt ≤ 1) → (0 ≤ l5_x101.toInt ∧ l5_x101.toInt ≤ 10) → (10 - l5_x101.toInt < ((n9 : Nat) : Int)) → va_P (dC, dI) vwCl (WV hV aV kV iV_holders iV_rules fV_pairs fV_domain fV_kind fV_a fV_b fV_c fV_rulePairs fV_lastHolder fV_now_x101 iV_doneFor iV_changed_x101 gV_fore gV_back fV_together_x15 fV_member_1 gV_list dV_list nV_list iV_listed iV_listDone) H → va_D A (WV hV aV kV iV_holders iV_rules fV_pairs fV_domain fV_kind fV_a fV_b fV_c fV_rulePairs fV_lastHolder fV_now_x101 iV_doneFor iV_changed_x101 gV_fore gV_back fV_together_x15 fV_member_1 gV_list dV_list nV_list iV_listed iV_listDone) → va_S A s.heap H locs → lv_has ls 6 [(5, .int l5_x101), (4, .int (iI (r3004.toInt - r3005.toInt))), (3, .int l3_x75), (2, .int r1), (0, .ref (hV 0)), (1, .int p1)] → W p l e _ s m _ below meth c H locs 0 0 _ (F0 m 101 ls [])) => loop (11) fV_now_x75 iV_changed_x75 0 _ _ _ (b_iV_changed_x75) (show 0 ≤ (0 : Int32).toInt ∧ (0 : Int32).toInt ≤ 10 from by decide) ((by have e9 : (0 : Int32).toInt = 0 := (by decide : (0 : Int32).toInt = 0); omega)) hP hD hS hl) ?_
          intro n9
          induction n9 with
          | zero => intro fV_now_x101 iV_changed_x101 l5_x101 H locs ls b_iV_changed_x101 b_l5_x101 hf9; exact False.elim (by omega)
          | succ n9 ihx101 =>
            intro fV_now_x101 iV_changed_x101 l5_x101 H locs ls b_iV_changed_x101 b_l5_x101 hfx101 hP hD hS hl
            refine lv_iload hx hb dX7_narrowDifferent_101 (lv_at hl 0 rfl) ?_
            refine lv_iload_n hx hb dX7_narrowDifferent_103 rfl (lv_at hl 3 rfl) ?_
            refine W.cut (pc := 160) (fun H locs ls stk =>  stk = [] ∧ va_P (dC, dI) vwCl (WV hV aV kV iV_holders iV_rules fV_pairs fV_domain fV_kind fV_a fV_b fV_c fV_rulePairs fV_lastHolder fV_now_x101 iV_doneFor iV_changed_x101 gV_fore gV_back fV_together_x15 fV_member_1 gV_list dV_list nV_list iV_listed iV_listDone) H ∧ va_D A (WV hV aV kV iV_holders iV_rules fV_pairs fV_domain fV_kind fV_a fV_b fV_c fV_rulePairs fV_lastHolder fV_now_x101 iV_doneFor iV_changed_x101 gV_fore gV_back fV_together_x15 fV_member_1 gV_list dV_list nV_list iV_listed iV_listDone) ∧ va_S A s.heap H locs ∧ lv_has ls 6 [(5, .int l5_x101), (4, .int (iI (r3004.toInt - r3005.toInt))), (3, .int l3_x75), (2, .int r1), (0, .ref (hV 0)), (1, .int p1)]) (fun join1135 => ?_) ?_
            · refine lv_icmp_ge (tgt := 160) hx hb dX7_narrowDifferent_104 (by decide) (fun c_104 => ?_) (fun c_104 => ?_)
              · have t_104 : l5_x101.toInt ≥ r1.toInt := toI_ge c_104 rfl rfl
                have hl : lv_has _ _ ([(5, .int l5_x101), (4, .int (iI (r3004.toInt - r3005.toInt))), (3, .int l3_x75), (2, .int r1), (0, .ref (hV 0)), (1, .int p1)]) := lv_sub hl [0, 1, 2, 3, 4, 5] rfl
                exact join1135 _ _ _ _ ⟨rfl, hP, hD, hS, hl⟩
              · have t_104 : ¬ l5_x101.toInt ≥ r1.toInt := toI_nge c_104 rfl rfl
                refine lv_iload hx hb dX7_narrowDifferent_107 (lv_at hl 1 rfl) ?_
                refine lv_if_gt (tgt := 160) hx hb dX7_narrowDifferent_109 (by decide) (fun c_109 => ?_) (fun c_109 => ?_)
                · first | (have t_109 : (r3004.toInt - r3005.toInt) > 0 := toI_gt c_109 (iI_t (by omega) (by omega)) (by decide : (0 : Int32).toInt = 0)) | skip
                  have hl : lv_has _ _ ([(5, .int l5_x101), (4, .int (iI (r3004.toInt - r3005.toInt))), (3, .int l3_x75), (2, .int r1), (0, .ref (hV 0)), (1, .int p1)]) := lv_sub hl [0, 1, 2, 3, 4, 5] rfl
                  exact join1135 _ _ _ _ ⟨rfl, hP, hD, hS, hl⟩
                · first | (have t_109 : ¬ (r3004.toInt - r3005.toInt) > 0 := toI_ngt c_109 (iI_t (by omega) (by omega)) (by decide : (0 : Int32).toInt = 0)) | skip
                  refine lv_iload hx hb dX7_narrowDifferent_112 (lv_at hl 1 rfl) ?_
                  refine W.cut (pc := 154) (fun H locs ls stk => ∃ (fV_now_j1138 : Nat → Int32) (iV_changed_j1138 : Int32), (0 ≤ iV_changed_j1138.toInt ∧ iV_changed_j1138.toInt ≤ 1) ∧  stk = [] ∧ va_P (dC, dI) vwCl (WV hV aV kV iV_holders iV_rules fV_pairs fV_domain fV_kind fV_a fV_b fV_c fV_rulePairs fV_lastHolder fV_now_j1138 iV_doneFor iV_changed_j1138 gV_fore gV_back fV_together_x15 fV_member_1 gV_list dV_list nV_list iV_listed iV_listDone) H ∧ va_D A (WV hV aV kV iV_holders iV_rules fV_pairs fV_domain fV_kind fV_a fV_b fV_c fV_rulePairs fV_lastHolder fV_now_j1138 iV_doneFor iV_changed_j1138 gV_fore gV_back fV_together_x15 fV_member_1 gV_list dV_list nV_list iV_listed iV_listDone) ∧ va_S A s.heap H locs ∧ lv_has ls 6 [(5, .int l5_x101), (4, .int (iI (r3004.toInt - r3005.toInt))), (3, .int l3_x75), (2, .int r1), (0, .ref (hV 0)), (1, .int p1)]) (fun join1138 => ?_) ?_
                  · refine lv_if_lt (tgt := 126) hx hb dX7_narrowDifferent_114 (by decide) (fun c_114 => ?_) (fun c_114 => ?_)
                    · first | (have t_114 : (r3004.toInt - r3005.toInt) < 0 := toI_lt c_114 (iI_t (by omega) (by omega)) (by decide : (0 : Int32).toInt = 0)) | skip
                      refine lv_aload_n hx hb dX7_narrowDifferent_126 rfl (lv_at hl 4 rfl) ?_
                      refine lv_aload_n hx hb dX7_narrowDifferent_127 rfl (lv_at hl 4 rfl) ?_
                      refine va_get (D := (dC, dI)) (ci := 7) (v := .ref (aV 12)) (C := RX7) (T := TX7) (N := 20) hx hb hts iwsMX7_narrowDifferent_in7 hown hK hP 0 rfl rfl 16 (by decide) (hts _ hm_m_X7_narrowDifferent_1) (fun _ h9 => h9) rfl dX7_narrowDifferent_128 ?_
                      refine lv_iload hx hb dX7_narrowDifferent_131 (lv_at hl 0 rfl) ?_
                      refine va_iald (cA := kV 12) (n := 10) (f := fV_member_1) hx hb hK hP 13 12 rfl rfl (vp_in_iff.mpr ⟨b_l5_x101.1, (by omega)⟩) dX7_narrowDifferent_133 ?_
                      refine lv_topi (fun v3161 hv3161 => ?_)
                      have b_v3161 : 0 ≤ v3161.toInt ∧ v3161.toInt ≤ 9 := by rw [hv3161]; exact MemO.at hMe (by omega) (by omega)
                      clear hv3161
                      refine lv_iload hx hb dX7_narrowDifferent_134 (lv_at hl 1 rfl) ?_
                      refine W.cut (pc := 151) (fun H locs ls stk => ∃ (k0_j1139 : Int32),  stk = [.int k0_j1139, .int v3161, .ref (hV 0)] ∧ va_P (dC, dI) vwCl (WV hV aV kV iV_holders iV_rules fV_pairs fV_domain fV_kind fV_a fV_b fV_c fV_rulePairs fV_lastHolder fV_now_x101 iV_doneFor iV_changed_x101 gV_fore gV_back fV_together_x15 fV_member_1 gV_list dV_list nV_list iV_listed iV_listDone) H ∧ va_D A (WV hV aV kV iV_holders iV_rules fV_pairs fV_domain fV_kind fV_a fV_b fV_c fV_rulePairs fV_lastHolder fV_now_x101 iV_doneFor iV_changed_x101 gV_fore gV_back fV_together_x15 fV_member_1 gV_list dV_list nV_list iV_listed iV_listDone) ∧ va_S A s.heap H locs ∧ lv_has ls 6 [(5, .int l5_x101), (4, .int (iI (r3004.toInt - r3005.toInt))), (3, .int l3_x75), (2, .int r1), (0, .ref (hV 0)), (1, .int p1)]) (fun join1139 => ?_) ?_
                      · refine lv_if_ge (tgt := 143) hx hb dX7_narrowDifferent_136 (by decide) (fun c_136 => ?_) (fun c_136 => ?_)
                        · first | (have t_136 : (r3004.toInt - r3005.toInt) ≥ 0 := toI_ge c_136 (iI_t (by omega) (by omega)) (by decide : (0 : Int32).toInt = 0)) | skip
                          refine lv_aload_n hx hb dX7_narrowDifferent_143 rfl (lv_at hl 4 rfl) ?_
                          refine va_get (D := (dC, dI)) (ci := 7) (v := .ref (aV 11)) (C := RX7) (T := TX7) (N := 20) hx hb hts iwsMX7_narrowDifferent_in7 hown hK hP 0 rfl rfl 15 (by decide) (hts _ hm_m_X7_narrowDifferent_0) (fun _ h9 => h9) rfl dX7_narrowDifferent_144 ?_
                          refine lv_iload_n hx hb dX7_narrowDifferent_147 rfl (lv_at hl 2 rfl) ?_
                          refine va_iald (cA := kV 11) (n := 1024) (f := fV_together_x15) hx hb hK hP 12 11 rfl rfl (vp_in_iff.mpr ⟨b_l3_x75.1, (by omega)⟩) dX7_narrowDifferent_148 ?_
                          refine lv_topi (fun v3164 hv3164 => ?_)
                          clear hv3164
                          refine lv_iconst (v := (-1)) hx hb dX7_narrowDifferent_149 (by decide) ?_
                          refine lv_ixor hx hb dX7_narrowDifferent_150 ?_
                          refine lv_topi (fun v3165 hv3165 => ?_)
                          clear hv3165
                          have hl : lv_has _ _ ([(5, .int l5_x101), (4, .int (iI (r3004.toInt - r3005.toInt))), (3, .int l3_x75), (2, .int r1), (0, .ref (hV 0)), (1, .int p1)]) := lv_sub hl [0, 1, 2, 3, 4, 5] rfl
                          exact join1139 _ _ _ _ ⟨v3165, rfl, hP, hD, hS, hl⟩
                        · first | (have t_136 : ¬ (r3004.toInt - r3005.toInt) ≥ 0 := toI_nge c_136 (iI_t (by omega) (by omega)) (by decide : (0 : Int32).toInt = 0)) | skip
                          refine lv_iconst (v := 0) hx hb dX7_narrowDifferent_139 (by decide) ?_
                          refine lv_goto (tgt := 151) hx hb dX7_narrowDifferent_140 (by decide) ?_
                          have hl : lv_has _ _ ([(5, .int l5_x101), (4, .int (iI (r3004.toInt - r3005.toInt))), (3, .int l3_x75), (2, .int r1), (0, .ref (hV 0)), (1, .int p1)]) := lv_sub hl [0, 1, 2, 3, 4, 5] rfl
                          exact join1139 _ _ _ _ ⟨0, rfl, hP, hD, hS, hl⟩
                      · rintro H locs ls stk ⟨k0_j1139, rfl, hP, hD, hS, hl⟩
                        have hFc := allFree hD hS hA
                        refine va_callv (va_runV (As := [.int v3161, .int k0_j1139]) (rest := []) ⟨hx, hb, hml, hown, hts⟩ (m_X7_cutTo l dC dI hV aV kV iV_holders iV_rules fV_pairs fV_domain fV_kind fV_a fV_b fV_c fV_rulePairs fV_lastHolder fV_now_x101 iV_doneFor iV_changed_x101 gV_fore gV_back fV_together_x15 fV_member_1 gV_list dV_list nV_list iV_listed iV_listDone v3161 k0_j1139 (b_iV_holders) (b_iV_rules) b_fV_kind (b_iV_changed_x101) b_fV_member_1 (by first | exact b_nV_list | with_reducible assumption | exact ⟨by omega, by omega⟩ | assumption) (b_iV_listed) (b_iV_listDone) (by first | with_reducible assumption | omega | assumption) (by first | with_reducible assumption | omega | assumption) (b_v3161) H.size) (cwV 2 hts gwsMX7_narrowDifferent_2 rfl rfl rfl hd_yX7_cutTo_RX7 (by decide +kernel)) (fz_pre (va_recv hK hP (ci := 7) (q0 := 0) rfl rfl) hP hK hD) rfl rfl hl.1 rfl (lv_room (Nat.le_of_ble_eq_true rfl)) dX7_narrowDifferent_151 (by decide +kernel)) hS (fun q _ h => hFc q h) hFc (fun u t9_ H locs ht hvm hw9 hB9 hz1 hk1 hS => ?_)
                        revert u hw9 hB9
                        refine fz_p2 ?_
                        intro fV_now_3166 iV_changed_3166 hw9 hB9
                        try dsimp only at hw9 hB9
                        have b_iV_changed_3166 := hw9
                        try dsimp only at b_iV_changed_3166
                        have hP : va_P (dC, dI) vwCl (WV hV aV kV iV_holders iV_rules fV_pairs fV_domain fV_kind fV_a fV_b fV_c fV_rulePairs fV_lastHolder fV_now_3166 iV_doneFor iV_changed_3166 gV_fore gV_back fV_together_x15 fV_member_1 gV_list dV_list nV_list iV_listed iV_listDone) H := fz_P ht hB9.1
                        have hD := fz_sd hP (hB9.2.weaken (fun _ q _ h => hFc q.1 h)) rfl
                        have hl : lv_has _ _ ([(5, .int l5_x101), (4, .int (iI (r3004.toInt - r3005.toInt))), (3, .int l3_x75), (2, .int r1), (0, .ref (hV 0)), (1, .int p1)]) := lv_sub hl [0, 1, 2, 3, 4, 5] rfl
                        exact join1138 _ _ _ _ ⟨fV_now_3166, iV_changed_3166, (by first | exact b_iV_changed_3166 | with_reducible assumption | exact ⟨by omega, by omega⟩ | assumption), rfl, hP, hD, hS, hl⟩
                    · first | (have t_114 : ¬ (r3004.toInt - r3005.toInt) < 0 := toI_nlt c_114 (iI_t (by omega) (by omega)) (by decide : (0 : Int32).toInt = 0)) | skip
                      refine lv_iload_n hx hb dX7_narrowDifferent_117 rfl (lv_at hl 2 rfl) ?_
                      refine lv_iload hx hb dX7_narrowDifferent_118 (lv_at hl 0 rfl) ?_
                      refine lv_ishr hx hb dX7_narrowDifferent_120 ?_
                      refine lv_topi (fun v3167 hv3167 => ?_)
                      clear hv3167
                      refine lv_iconst (v := 1) hx hb dX7_narrowDifferent_121 (by decide) ?_
                      refine lv_iand hx hb dX7_narrowDifferent_122 ?_
                      refine lv_topi (fun v3168 hv3168 => ?_)
                      have b_v3168 : 0 ≤ v3168.toInt ∧ v3168.toInt ≤ 1 := by rw [hv3168]; exact and_rng _ (by decide) (by decide)
                      clear hv3168
                      refine lv_if_ne (tgt := 154) hx hb dX7_narrowDifferent_123 (by decide) (fun c_123 => ?_) (fun c_123 => ?_)
                      · have t_123 : v3168.toInt ≠ 0 := toI_ne c_123 rfl (by decide : (0 : Int32).toInt = 0)
                        have hl : lv_has _ _ ([(5, .int l5_x101), (4, .int (iI (r3004.toInt - r3005.toInt))), (3, .int l3_x75), (2, .int r1), (0, .ref (hV 0)), (1, .int p1)]) := lv_sub hl [0, 1, 2, 3, 4, 5] rfl
                        exact join1138 _ _ _ _ ⟨fV_now_x101, iV_changed_x101, (b_iV_changed_x101), rfl, hP, hD, hS, hl⟩
                      · have t_123 : v3168.toInt = 0 := toI_nne c_123 rfl (by decide : (0 : Int32).toInt = 0)
                        refine lv_aload_n hx hb dX7_narrowDifferent_126 rfl (lv_at hl 4 rfl) ?_
                        refine lv_aload_n hx hb dX7_narrowDifferent_127 rfl (lv_at hl 4 rfl) ?_
                        refine va_get (D := (dC, dI)) (ci := 7) (v := .ref (aV 12)) (C := RX7) (T := TX7) (N := 20) hx hb hts iwsMX7_narrowDifferent_in7 hown hK hP 0 rfl rfl 16 (by decide) (hts _ hm_m_X7_narrowDifferent_1) (fun _ h9 => h9) rfl dX7_narrowDifferent_128 ?_
                        refine lv_iload hx hb dX7_narrowDifferent_131 (lv_at hl 0 rfl) ?_
                        refine va_iald (cA := kV 12) (n := 10) (f := fV_member_1) hx hb hK hP 13 12 rfl rfl (vp_in_iff.mpr ⟨b_l5_x101.1, (by omega)⟩) dX7_narrowDifferent_133 ?_
                        refine lv_topi (fun v3169 hv3169 => ?_)
                        have b_v3169 : 0 ≤ v3169.toInt ∧ v3169.toInt ≤ 9 := by rw [hv3169]; exact MemO.at hMe (by omega) (by omega)
                        clear hv3169
                        refine lv_iload hx hb dX7_narrowDifferent_134 (lv_at hl 1 rfl) ?_
                        refine W.cut (pc := 151) (fun H locs ls stk => ∃ (k0_j1140 : Int32),  stk = [.int k0_j1140, .int v3169, .ref (hV 0)] ∧ va_P (dC, dI) vwCl (WV hV aV kV iV_holders iV_rules fV_pairs fV_domain fV_kind fV_a fV_b fV_c fV_rulePairs fV_lastHolder fV_now_x101 iV_doneFor iV_changed_x101 gV_fore gV_back fV_together_x15 fV_member_1 gV_list dV_list nV_list iV_listed iV_listDone) H ∧ va_D A (WV hV aV kV iV_holders iV_rules fV_pairs fV_domain fV_kind fV_a fV_b fV_c fV_rulePairs fV_lastHolder fV_now_x101 iV_doneFor iV_changed_x101 gV_fore gV_back fV_together_x15 fV_member_1 gV_list dV_list nV_list iV_listed iV_listDone) ∧ va_S A s.heap H locs ∧ lv_has ls 6 [(5, .int l5_x101), (4, .int (iI (r3004.toInt - r3005.toInt))), (3, .int l3_x75), (2, .int r1), (0, .ref (hV 0)), (1, .int p1)]) (fun join1140 => ?_) ?_
                        · refine lv_if_ge (tgt := 143) hx hb dX7_narrowDifferent_136 (by decide) (fun c_136 => ?_) (fun c_136 => ?_)
                          · first | (have t_136 : (r3004.toInt - r3005.toInt) ≥ 0 := toI_ge c_136 (iI_t (by omega) (by omega)) (by decide : (0 : Int32).toInt = 0)) | skip
                            refine lv_aload_n hx hb dX7_narrowDifferent_143 rfl (lv_at hl 4 rfl) ?_
                            refine va_get (D := (dC, dI)) (ci := 7) (v := .ref (aV 11)) (C := RX7) (T := TX7) (N := 20) hx hb hts iwsMX7_narrowDifferent_in7 hown hK hP 0 rfl rfl 15 (by decide) (hts _ hm_m_X7_narrowDifferent_0) (fun _ h9 => h9) rfl dX7_narrowDifferent_144 ?_
                            refine lv_iload_n hx hb dX7_narrowDifferent_147 rfl (lv_at hl 2 rfl) ?_
                            refine va_iald (cA := kV 11) (n := 1024) (f := fV_together_x15) hx hb hK hP 12 11 rfl rfl (vp_in_iff.mpr ⟨b_l3_x75.1, (by omega)⟩) dX7_narrowDifferent_148 ?_
                            refine lv_topi (fun v3172 hv3172 => ?_)
                            clear hv3172
                            refine lv_iconst (v := (-1)) hx hb dX7_narrowDifferent_149 (by decide) ?_
                            refine lv_ixor hx hb dX7_narrowDifferent_150 ?_
                            refine lv_topi (fun v3173 hv3173 => ?_)
                            clear hv3173
                            have hl : lv_has _ _ ([(5, .int l5_x101), (4, .int (iI (r3004.toInt - r3005.toInt))), (3, .int l3_x75), (2, .int r1), (0, .ref (hV 0)), (1, .int p1)]) := lv_sub hl [0, 1, 2, 3, 4, 5] rfl
                            exact join1140 _ _ _ _ ⟨v3173, rfl, hP, hD, hS, hl⟩
                          · first | (have t_136 : ¬ (r3004.toInt - r3005.toInt) ≥ 0 := toI_nge c_136 (iI_t (by omega) (by omega)) (by decide : (0 : Int32).toInt = 0)) | skip
                            refine lv_iconst (v := 0) hx hb dX7_narrowDifferent_139 (by decide) ?_
                            refine lv_goto (tgt := 151) hx hb dX7_narrowDifferent_140 (by decide) ?_
                            have hl : lv_has _ _ ([(5, .int l5_x101), (4, .int (iI (r3004.toInt - r3005.toInt))), (3, .int l3_x75), (2, .int r1), (0, .ref (hV 0)), (1, .int p1)]) := lv_sub hl [0, 1, 2, 3, 4, 5] rfl
                            exact join1140 _ _ _ _ ⟨0, rfl, hP, hD, hS, hl⟩
                        · rintro H locs ls stk ⟨k0_j1140, rfl, hP, hD, hS, hl⟩
                          have hFc := allFree hD hS hA
                          refine va_callv (va_runV (As := [.int v3169, .int k0_j1140]) (rest := []) ⟨hx, hb, hml, hown, hts⟩ (m_X7_cutTo l dC dI hV aV kV iV_holders iV_rules fV_pairs fV_domain fV_kind fV_a fV_b fV_c fV_rulePairs fV_lastHolder fV_now_x101 iV_doneFor iV_changed_x101 gV_fore gV_back fV_together_x15 fV_member_1 gV_list dV_list nV_list iV_listed iV_listDone v3169 k0_j1140 (b_iV_holders) (b_iV_rules) b_fV_kind (b_iV_changed_x101) b_fV_member_1 (by first | exact b_nV_list | with_reducible assumption | exact ⟨by omega, by omega⟩ | assumption) (b_iV_listed) (b_iV_listDone) (by first | with_reducible assumption | omega | assumption) (by first | with_reducible assumption | omega | assumption) (b_v3169) H.size) (cwV 2 hts gwsMX7_narrowDifferent_2 rfl rfl rfl hd_yX7_cutTo_RX7 (by decide +kernel)) (fz_pre (va_recv hK hP (ci := 7) (q0 := 0) rfl rfl) hP hK hD) rfl rfl hl.1 rfl (lv_room (Nat.le_of_ble_eq_true rfl)) dX7_narrowDifferent_151 (by decide +kernel)) hS (fun q _ h => hFc q h) hFc (fun u t9_ H locs ht hvm hw9 hB9 hz1 hk1 hS => ?_)
                          revert u hw9 hB9
                          refine fz_p2 ?_
                          intro fV_now_3174 iV_changed_3174 hw9 hB9
                          try dsimp only at hw9 hB9
                          have b_iV_changed_3174 := hw9
                          try dsimp only at b_iV_changed_3174
                          have hP : va_P (dC, dI) vwCl (WV hV aV kV iV_holders iV_rules fV_pairs fV_domain fV_kind fV_a fV_b fV_c fV_rulePairs fV_lastHolder fV_now_3174 iV_doneFor iV_changed_3174 gV_fore gV_back fV_together_x15 fV_member_1 gV_list dV_list nV_list iV_listed iV_listDone) H := fz_P ht hB9.1
                          have hD := fz_sd hP (hB9.2.weaken (fun _ q _ h => hFc q.1 h)) rfl
                          have hl : lv_has _ _ ([(5, .int l5_x101), (4, .int (iI (r3004.toInt - r3005.toInt))), (3, .int l3_x75), (2, .int r1), (0, .ref (hV 0)), (1, .int p1)]) := lv_sub hl [0, 1, 2, 3, 4, 5] rfl
                          exact join1138 _ _ _ _ ⟨fV_now_3174, iV_changed_3174, (by first | exact b_iV_changed_3174 | with_reducible assumption | exact ⟨by omega, by omega⟩ | assumption), rfl, hP, hD, hS, hl⟩
                  · rintro H locs ls stk ⟨fV_now_j1138, iV_changed_j1138, b_iV_changed_j1138, rfl, hP, hD, hS, hl⟩
                    refine lv_iinc (v := (iI (l5_x101.toInt + 1))) hx hb dX7_narrowDifferent_154 hl (k := 0) rfl (iI_add2 (iI_of _) (by decide : (1 : Int32) = iI 1)) (by decide) rfl (fun ls (hl : lv_has ls _ ([(5, .int (iI (l5_x101.toInt + 1))), (4, .int (iI (r3004.toInt - r3005.toInt))), (3, .int l3_x75), (2, .int r1), (0, .ref (hV 0)), (1, .int p1)])) => ?_)
                    refine lv_goto (tgt := 101) hx hb dX7_narrowDifferent_157 (by decide) ?_
                    have hl : lv_has _ _ ([(5, .int (iI (l5_x101.toInt + 1))), (4, .int (iI (r3004.toInt - r3005.toInt))), (3, .int l3_x75), (2, .int r1), (0, .ref (hV 0)), (1, .int p1)]) := lv_sub hl [0, 1, 2, 3, 4, 5] rfl
                    exact ihx101 fV_now_j1138 iV_changed_j1138 (iI (l5_x101.toInt + 1)) _ _ _ (by first | exact b_iV_changed_j1138 | with_reducible assumption | exact ⟨by omega, by omega⟩ | assumption) (iI_rng (Int.le_trans (by decide) (Int.add_le_add (b_l5_x101.1) (Int.le_refl _))) (by omega) (by decide) (by decide)) (by have e9 : ((iI (l5_x101.toInt + 1))).toInt = (l5_x101.toInt + 1) := (iI_t (Int.le_trans (by decide) (Int.add_le_add (b_l5_x101.1) (Int.le_refl _))) (Int.le_trans (Int.add_le_add (b_l5_x101.2) (Int.le_refl _)) (by decide))); omega) hP hD hS hl
            · rintro H locs ls stk ⟨rfl, hP, hD, hS, hl⟩
              refine lv_iinc (v := (iI (l3_x75.toInt + 1))) hx hb dX7_narrowDifferent_160 hl (k := 2) rfl (iI_add2 (iI_of _) (by decide : (1 : Int32) = iI 1)) (by decide) rfl (fun ls (hl : lv_has ls _ ([(3, .int (iI (l3_x75.toInt + 1))), (5, .int l5_x101), (4, .int (iI (r3004.toInt - r3005.toInt))), (2, .int r1), (0, .ref (hV 0)), (1, .int p1)])) => ?_)
              refine lv_goto (tgt := 75) hx hb dX7_narrowDifferent_163 (by decide) ?_
              have hl : lv_has _ _ ([(3, .int (iI (l3_x75.toInt + 1))), (2, .int r1), (0, .ref (hV 0)), (1, .int p1)]) := lv_sub hl [0, 3, 4, 5] rfl
              exact ihx75 fV_now_x101 iV_changed_x101 (iI (l3_x75.toInt + 1)) _ _ _ (b_iV_changed_x101) (iI_rng (Int.le_trans (by decide) (Int.add_le_add (b_l3_x75.1) (Int.le_refl _))) (by omega) (by decide) (by decide)) (by have e9 : ((iI (l3_x75.toInt + 1))).toInt = (l3_x75.toInt + 1) := (iI_t (Int.le_trans (by decide) (Int.add_le_add (b_l3_x75.1) (Int.le_refl _))) (Int.le_trans (Int.add_le_add (b_l3_x75.2) (Int.le_refl _)) (by decide))); omega) hP hD hS hl
    · have t_17 : ¬ l3_x15.toInt ≥ r1.toInt := toI_nge c_17 rfl rfl
      refine lv_iconst (v := 0) hx hb dX7_narrowDifferent_20 (by decide) ?_
      refine lv_istore hx hb dX7_narrowDifferent_21 hl (by decide) rfl (fun ls (hl : lv_has ls _ ([(4, .int 0), (3, .int l3_x15), (2, .int r1), (0, .ref (hV 0)), (1, .int p1)])) => ?_)
      have hl : lv_has _ _ ([(4, .int 0), (3, .int l3_x15), (2, .int r1), (0, .ref (hV 0)), (1, .int p1)]) := lv_sub hl [0, 1, 2, 3, 4] rfl
      refine (fun (loop : ∀ (n9 : Nat) (fV_together_x23 : Nat → Int32) (l4_x23 : Int32) (H : Heap) (locs : List Loc) (ls : Array Slot), (0 ≤ l4_x23.toInt ∧ l4_x23.toInt ≤ 512) → (512 - l4_x23.toInt < ((n9 : Nat) : Int)) → va_P (dC, dI) vwCl (WV hV aV kV iV_holders iV_rules fV_pairs fV_domain fV_kind fV_a fV_b fV_c fV_rulePairs fV_lastHolder fV_now iV_doneFor iV_changed gV_fore gV_back fV_together_x23 fV_member_1 gV_list dV_list nV_list iV_listed iV_listDone) H → va_D A (WV hV aV kV iV_holders iV_rules fV_pairs fV_domain fV_kind fV_a fV_b fV_c fV_rulePairs fV_lastHolder fV_now iV_doneFor iV_changed gV_fore gV_back fV_together_x23 fV_member_1 gV_list dV_list nV_list iV_listed iV_listDone) → va_S A s.heap H locs → lv_has ls 6 [(4, .int l4_x23), (3, .int l3_x15), (2, .int r1), (0, .ref (hV 0)), (1, .int p1)] → W p l e _ s m _ below meth c H locs 0 0 _ (F0 m 23 ls [])) => loop (513) fV_together_x15 0 _ _ _ (show 0 ≤ (0 : Int32).toInt ∧ (0 : Int32).toInt ≤ 512 from by decide) ((by have e9 : (0 : Int32).toInt = 0 := (by decide : (0 : Int32).toInt = 0); omega)) hP hD hS hl) ?_
      intro n9
      induction n9 with
      | zero => intro fV_together_x23 l4_x23 H locs ls b_l4_x23 hf9; exact False.elim (by omega)
      | succ n9 ihx23 =>
        intro fV_together_x23 l4_x23 H locs ls b_l4_x23 hfx23 hP hD hS hl
        refine lv_iload hx hb dX7_narrowDifferent_23 (lv_at hl 0 rfl) ?_
        refine lv_iconst (v := 1) hx hb dX7_narrowDifferent_25 (by decide) ?_
        refine lv_iload_n hx hb dX7_narrowDifferent_26 rfl (lv_at hl 1 rfl) ?_
        refine lv_ishl hx hb dX7_narrowDifferent_27 ?_
        refine lv_topi (fun v3205 hv3205 => ?_)
        have b_v3205 : 1 ≤ v3205.toInt ∧ v3205.toInt ≤ 512 := by rw [hv3205]; exact shl1_t (k := 9) rfl (by omega) (by omega) (by decide)
        clear hv3205
        refine lv_icmp_ge (tgt := 67) hx hb dX7_narrowDifferent_28 (by decide) (fun c_28 => ?_) (fun c_28 => ?_)
        · have t_28 : l4_x23.toInt ≥ v3205.toInt := toI_ge c_28 rfl rfl
          refine lv_iinc (v := (iI (l3_x15.toInt + 1))) hx hb dX7_narrowDifferent_67 hl (k := 1) rfl (iI_add2 (iI_of _) (by decide : (1 : Int32) = iI 1)) (by decide) rfl (fun ls (hl : lv_has ls _ ([(3, .int (iI (l3_x15.toInt + 1))), (4, .int l4_x23), (2, .int r1), (0, .ref (hV 0)), (1, .int p1)])) => ?_)
          refine lv_goto (tgt := 15) hx hb dX7_narrowDifferent_70 (by decide) ?_
          have hl : lv_has _ _ ([(3, .int (iI (l3_x15.toInt + 1))), (2, .int r1), (0, .ref (hV 0)), (1, .int p1)]) := lv_sub hl [0, 2, 3, 4] rfl
          exact ihx15 fV_together_x23 (iI (l3_x15.toInt + 1)) _ _ _ (iI_rng (Int.le_trans (by decide) (Int.add_le_add (b_l3_x15.1) (Int.le_refl _))) (by omega) (by decide) (by decide)) (by have e9 : ((iI (l3_x15.toInt + 1))).toInt = (l3_x15.toInt + 1) := (iI_t (Int.le_trans (by decide) (Int.add_le_add (b_l3_x15.1) (Int.le_refl _))) (Int.le_trans (Int.add_le_add (b_l3_x15.2) (Int.le_refl _)) (by decide))); omega) hP hD hS hl
        · have t_28 : ¬ l4_x23.toInt ≥ v3205.toInt := toI_nge c_28 rfl rfl
          refine lv_aload_n hx hb dX7_narrowDifferent_31 rfl (lv_at hl 3 rfl) ?_
          refine va_get (D := (dC, dI)) (ci := 7) (v := .ref (aV 11)) (C := RX7) (T := TX7) (N := 20) hx hb hts iwsMX7_narrowDifferent_in7 hown hK hP 0 rfl rfl 15 (by decide) (hts _ hm_m_X7_narrowDifferent_0) (fun _ h9 => h9) rfl dX7_narrowDifferent_32 ?_
          refine lv_iload hx hb dX7_narrowDifferent_35 (lv_at hl 0 rfl) ?_
          refine lv_iconst (v := 1) hx hb dX7_narrowDifferent_37 (by decide) ?_
          refine lv_iload_n hx hb dX7_narrowDifferent_38 rfl (lv_at hl 1 rfl) ?_
          refine lv_ishl hx hb dX7_narrowDifferent_39 ?_
          refine lv_topi (fun v3213 hv3213 => ?_)
          have b_v3213 : 1 ≤ v3213.toInt ∧ v3213.toInt ≤ 512 := by rw [hv3213]; exact shl1_t (k := 9) rfl (by omega) (by omega) (by decide)
          clear hv3213
          refine lv_ior hx hb dX7_narrowDifferent_40 ?_
          refine lv_topi (fun v3214 hv3214 => ?_)
          have b_v3214 : 0 ≤ v3214.toInt ∧ v3214.toInt < 1024 := by rw [hv3214]; exact or_rng rfl rfl 10 (by decide) (by omega) (by omega) (by omega) (by omega)
          clear hv3214
          refine lv_aload_n hx hb dX7_narrowDifferent_41 rfl (lv_at hl 3 rfl) ?_
          refine va_get (D := (dC, dI)) (ci := 7) (v := .ref (aV 11)) (C := RX7) (T := TX7) (N := 20) hx hb hts iwsMX7_narrowDifferent_in7 hown hK hP 0 rfl rfl 15 (by decide) (hts _ hm_m_X7_narrowDifferent_0) (fun _ h9 => h9) rfl dX7_narrowDifferent_42 ?_
          refine lv_iload hx hb dX7_narrowDifferent_45 (lv_at hl 0 rfl) ?_
          refine va_iald (cA := kV 11) (n := 1024) (f := fV_together_x23) hx hb hK hP 12 11 rfl rfl (vp_in_iff.mpr ⟨b_l4_x23.1, (Int.lt_of_le_of_lt (b_l4_x23.2) (by decide))⟩) dX7_narrowDifferent_47 ?_
          refine lv_topi (fun v3215 hv3215 => ?_)
          clear hv3215
          refine lv_aload_n hx hb dX7_narrowDifferent_48 rfl (lv_at hl 3 rfl) ?_
          refine va_get (D := (dC, dI)) (ci := 7) (v := .ref (aV 8)) (C := RX7) (T := TX7) (N := 20) hx hb hts iwsMX7_narrowDifferent_in7 hown hK hP 0 rfl rfl 10 (by decide) (hts (.fieldLink RX7 36 "OptimaWorks$ValueDesk" "now" "[I") (by decide +kernel)) (fun _ h9 => h9) rfl dX7_narrowDifferent_49 ?_
          refine lv_aload_n hx hb dX7_narrowDifferent_52 rfl (lv_at hl 3 rfl) ?_
          refine va_get (D := (dC, dI)) (ci := 7) (v := .ref (aV 12)) (C := RX7) (T := TX7) (N := 20) hx hb hts iwsMX7_narrowDifferent_in7 hown hK hP 0 rfl rfl 16 (by decide) (hts _ hm_m_X7_narrowDifferent_1) (fun _ h9 => h9) rfl dX7_narrowDifferent_53 ?_
          refine lv_iload_n hx hb dX7_narrowDifferent_56 rfl (lv_at hl 1 rfl) ?_
          refine va_iald (cA := kV 12) (n := 10) (f := fV_member_1) hx hb hK hP 13 12 rfl rfl (vp_in_iff.mpr ⟨b_l3_x15.1, (by omega)⟩) dX7_narrowDifferent_57 ?_
          refine lv_topi (fun v3216 hv3216 => ?_)
          have b_v3216 : 0 ≤ v3216.toInt ∧ v3216.toInt ≤ 9 := by rw [hv3216]; exact MemO.at hMe (by omega) (by omega)
          clear hv3216
          refine va_iald (cA := kV 8) (n := 10) (f := fV_now) hx hb hK hP 9 8 rfl rfl (vp_in_iff.mpr ⟨b_v3216.1, (Int.lt_of_le_of_lt (b_v3216.2) (by decide))⟩) dX7_narrowDifferent_58 ?_
          refine lv_topi (fun v3217 hv3217 => ?_)
          clear hv3217
          refine lv_ior hx hb dX7_narrowDifferent_59 ?_
          refine lv_topi (fun v3218 hv3218 => ?_)
          clear hv3218
          refine va_iast (cA := kV 11) (n := 1024) (f := fV_together_x23) hx hb hK hP hD hS 12 11 rfl rfl (vp_in_iff.mpr ⟨(by omega), (by omega)⟩) dX7_narrowDifferent_60 (fun H locs hP hD hS => ?_)
          obtain ⟨u3219, hu3219⟩ : ∃ f9, f9 = upd fV_together_x23 (v3214).toNatClampNeg v3218 := ⟨_, rfl⟩
          have hP : va_P (dC, dI) vwCl (WV hV aV kV iV_holders iV_rules fV_pairs fV_domain fV_kind fV_a fV_b fV_c fV_rulePairs fV_lastHolder fV_now iV_doneFor iV_changed gV_fore gV_back u3219 fV_member_1 gV_list dV_list nV_list iV_listed iV_listDone) H := by rw [hu3219]; exact hP
          have hD : va_D A (WV hV aV kV iV_holders iV_rules fV_pairs fV_domain fV_kind fV_a fV_b fV_c fV_rulePairs fV_lastHolder fV_now iV_doneFor iV_changed gV_fore gV_back u3219 fV_member_1 gV_list dV_list nV_list iV_listed iV_listDone) := by rw [hu3219]; exact hD
          clear hu3219
          refine lv_iinc (v := (iI (l4_x23.toInt + 1))) hx hb dX7_narrowDifferent_61 hl (k := 0) rfl (iI_add2 (iI_of _) (by decide : (1 : Int32) = iI 1)) (by decide) rfl (fun ls (hl : lv_has ls _ ([(4, .int (iI (l4_x23.toInt + 1))), (3, .int l3_x15), (2, .int r1), (0, .ref (hV 0)), (1, .int p1)])) => ?_)
          refine lv_goto (tgt := 23) hx hb dX7_narrowDifferent_64 (by decide) ?_
          have hl : lv_has _ _ ([(4, .int (iI (l4_x23.toInt + 1))), (3, .int l3_x15), (2, .int r1), (0, .ref (hV 0)), (1, .int p1)]) := lv_sub hl [0, 1, 2, 3, 4] rfl
          exact ihx23 u3219 (iI (l4_x23.toInt + 1)) _ _ _ (iI_rng (Int.le_trans (by decide) (Int.add_le_add (b_l4_x23.1) (Int.le_refl _))) (by omega) (by decide) (by decide)) (by have e9 : ((iI (l4_x23.toInt + 1))).toInt = (l4_x23.toInt + 1) := (iI_t (Int.le_trans (by decide) (Int.add_le_add (b_l4_x23.1) (Int.le_refl _))) (Int.le_trans (Int.add_le_add (b_l4_x23.2) (Int.le_refl _)) (by decide))); omega) hP hD hS hl
theorem dX7_narrowOrder_0 : decode cX7_narrowOrder 0 = .ok (.iload_n 1, 1) := dk_27 (by decide +kernel)
theorem dX7_narrowOrder_1 : decode cX7_narrowOrder 1 = .ok (.iload_n 3, 1) := dk_29 (by decide +kernel)
theorem dX7_narrowOrder_2 : decode cX7_narrowOrder 2 = .ok (.if_icmp .ne 19, 3) := dk_160 (by decide +kernel)
theorem dX7_narrowOrder_5 : decode cX7_narrowOrder 5 = .ok (.aload_n 0, 1) := dk_42 (by decide +kernel)
theorem dX7_narrowOrder_6 : decode cX7_narrowOrder 6 = .ok (.iload_n 1, 1) := dk_27 (by decide +kernel)
theorem dX7_narrowOrder_7 : decode cX7_narrowOrder 7 = .ok (.iload_n 2, 1) := dk_28 (by decide +kernel)
theorem dX7_narrowOrder_8 : decode cX7_narrowOrder 8 = .ok (.ifCond .gt 8, 3) := dk_157 (by decide +kernel)
theorem dX7_narrowOrder_11 : decode cX7_narrowOrder 11 = .ok (.ldc 150, 2) := dk_18 (by decide +kernel)
theorem dX7_narrowOrder_13 : decode cX7_narrowOrder 13 = .ok (.goto 4, 3) := dk_167 (by decide +kernel)
theorem dX7_narrowOrder_16 : decode cX7_narrowOrder 16 = .ok (.iconst 0, 1) := dk_3 (by decide +kernel)
theorem dX7_narrowOrder_17 : decode cX7_narrowOrder 17 = .ok (.invokevirtual 146, 3) := dk_182 (by decide +kernel)
theorem dX7_narrowOrder_20 : decode cX7_narrowOrder 20 = .ok (.return_, 1) := dk_177 (by decide +kernel)
theorem dX7_narrowOrder_21 : decode cX7_narrowOrder 21 = .ok (.aload_n 0, 1) := dk_42 (by decide +kernel)
theorem dX7_narrowOrder_22 : decode cX7_narrowOrder 22 = .ok (.getfield 36, 3) := dk_180 (by decide +kernel)
theorem dX7_narrowOrder_25 : decode cX7_narrowOrder 25 = .ok (.iload_n 3, 1) := dk_29 (by decide +kernel)
theorem dX7_narrowOrder_26 : decode cX7_narrowOrder 26 = .ok (.iaload, 1) := dk_46 (by decide +kernel)
theorem dX7_narrowOrder_27 : decode cX7_narrowOrder 27 = .ok (.invokestatic 95, 3) := dk_184 (by decide +kernel)
theorem dX7_narrowOrder_30 : decode cX7_narrowOrder 30 = .ok (.iload_n 2, 1) := dk_28 (by decide +kernel)
theorem dX7_narrowOrder_31 : decode cX7_narrowOrder 31 = .ok (.isub, 1) := dk_100 (by decide +kernel)
theorem dX7_narrowOrder_32 : decode cX7_narrowOrder 32 = .ok (.istore 4, 2) := dk_54 (by decide +kernel)
theorem dX7_narrowOrder_34 : decode cX7_narrowOrder 34 = .ok (.aload_n 0, 1) := dk_42 (by decide +kernel)
theorem dX7_narrowOrder_35 : decode cX7_narrowOrder 35 = .ok (.iload_n 1, 1) := dk_27 (by decide +kernel)
theorem dX7_narrowOrder_36 : decode cX7_narrowOrder 36 = .ok (.iload 4, 2) := dk_21 (by decide +kernel)
theorem dX7_narrowOrder_38 : decode cX7_narrowOrder 38 = .ok (.ifCond .ge 7, 3) := dk_156 (by decide +kernel)
theorem dX7_narrowOrder_41 : decode cX7_narrowOrder 41 = .ok (.iconst 0, 1) := dk_3 (by decide +kernel)
theorem dX7_narrowOrder_42 : decode cX7_narrowOrder 42 = .ok (.goto 21, 3) := dk_167 (by decide +kernel)
theorem dX7_narrowOrder_45 : decode cX7_narrowOrder 45 = .ok (.iload 4, 2) := dk_21 (by decide +kernel)
theorem dX7_narrowOrder_47 : decode cX7_narrowOrder 47 = .ok (.bipush 16, 2) := dk_16 (by decide +kernel)
theorem dX7_narrowOrder_49 : decode cX7_narrowOrder 49 = .ok (.if_icmp .lt 8, 3) := dk_161 (by decide +kernel)
theorem dX7_narrowOrder_52 : decode cX7_narrowOrder 52 = .ok (.ldc 150, 2) := dk_18 (by decide +kernel)
theorem dX7_narrowOrder_54 : decode cX7_narrowOrder 54 = .ok (.goto 9, 3) := dk_167 (by decide +kernel)
theorem dX7_narrowOrder_57 : decode cX7_narrowOrder 57 = .ok (.iconst 2, 1) := dk_5 (by decide +kernel)
theorem dX7_narrowOrder_58 : decode cX7_narrowOrder 58 = .ok (.iload 4, 2) := dk_21 (by decide +kernel)
theorem dX7_narrowOrder_60 : decode cX7_narrowOrder 60 = .ok (.ishl, 1) := dk_120 (by decide +kernel)
theorem dX7_narrowOrder_61 : decode cX7_narrowOrder 61 = .ok (.iconst 1, 1) := dk_4 (by decide +kernel)
theorem dX7_narrowOrder_62 : decode cX7_narrowOrder 62 = .ok (.isub, 1) := dk_100 (by decide +kernel)
theorem dX7_narrowOrder_63 : decode cX7_narrowOrder 63 = .ok (.invokevirtual 146, 3) := dk_182 (by decide +kernel)
theorem dX7_narrowOrder_66 : decode cX7_narrowOrder 66 = .ok (.aload_n 0, 1) := dk_42 (by decide +kernel)
theorem dX7_narrowOrder_67 : decode cX7_narrowOrder 67 = .ok (.getfield 36, 3) := dk_180 (by decide +kernel)
theorem dX7_narrowOrder_70 : decode cX7_narrowOrder 70 = .ok (.iload_n 1, 1) := dk_27 (by decide +kernel)
theorem dX7_narrowOrder_71 : decode cX7_narrowOrder 71 = .ok (.iaload, 1) := dk_46 (by decide +kernel)
theorem dX7_narrowOrder_72 : decode cX7_narrowOrder 72 = .ok (.invokestatic 151, 3) := dk_184 (by decide +kernel)
theorem dX7_narrowOrder_75 : decode cX7_narrowOrder 75 = .ok (.iload_n 2, 1) := dk_28 (by decide +kernel)
theorem dX7_narrowOrder_76 : decode cX7_narrowOrder 76 = .ok (.iadd, 1) := dk_96 (by decide +kernel)
theorem dX7_narrowOrder_77 : decode cX7_narrowOrder 77 = .ok (.istore 5, 2) := dk_54 (by decide +kernel)
theorem dX7_narrowOrder_79 : decode cX7_narrowOrder 79 = .ok (.aload_n 0, 1) := dk_42 (by decide +kernel)
theorem dX7_narrowOrder_80 : decode cX7_narrowOrder 80 = .ok (.iload_n 3, 1) := dk_29 (by decide +kernel)
theorem dX7_narrowOrder_81 : decode cX7_narrowOrder 81 = .ok (.iload 5, 2) := dk_21 (by decide +kernel)
theorem dX7_narrowOrder_83 : decode cX7_narrowOrder 83 = .ok (.bipush 16, 2) := dk_16 (by decide +kernel)
theorem dX7_narrowOrder_85 : decode cX7_narrowOrder 85 = .ok (.if_icmp .lt 7, 3) := dk_161 (by decide +kernel)
theorem dX7_narrowOrder_88 : decode cX7_narrowOrder 88 = .ok (.iconst 0, 1) := dk_3 (by decide +kernel)
theorem dX7_narrowOrder_89 : decode cX7_narrowOrder 89 = .ok (.goto 20, 3) := dk_167 (by decide +kernel)
theorem dX7_narrowOrder_92 : decode cX7_narrowOrder 92 = .ok (.iload 5, 2) := dk_21 (by decide +kernel)
theorem dX7_narrowOrder_94 : decode cX7_narrowOrder 94 = .ok (.ifCond .gt 8, 3) := dk_157 (by decide +kernel)
theorem dX7_narrowOrder_97 : decode cX7_narrowOrder 97 = .ok (.ldc 150, 2) := dk_18 (by decide +kernel)
theorem dX7_narrowOrder_99 : decode cX7_narrowOrder 99 = .ok (.goto 10, 3) := dk_167 (by decide +kernel)
theorem dX7_narrowOrder_102 : decode cX7_narrowOrder 102 = .ok (.ldc 150, 2) := dk_18 (by decide +kernel)
theorem dX7_narrowOrder_104 : decode cX7_narrowOrder 104 = .ok (.iconst (-1), 1) := dk_2 (by decide +kernel)
theorem dX7_narrowOrder_105 : decode cX7_narrowOrder 105 = .ok (.iload 5, 2) := dk_21 (by decide +kernel)
theorem dX7_narrowOrder_107 : decode cX7_narrowOrder 107 = .ok (.ishl, 1) := dk_120 (by decide +kernel)
theorem dX7_narrowOrder_108 : decode cX7_narrowOrder 108 = .ok (.iand, 1) := dk_126 (by decide +kernel)
theorem dX7_narrowOrder_109 : decode cX7_narrowOrder 109 = .ok (.invokevirtual 146, 3) := dk_182 (by decide +kernel)
theorem dX7_narrowOrder_112 : decode cX7_narrowOrder 112 = .ok (.return_, 1) := dk_177 (by decide +kernel)
def wsMX7_narrowOrder : List Cond := .code yX7_narrowOrder cX7_narrowOrder 6 none :: ([.fieldLink RX7 36 "OptimaWorks$ValueDesk" "now" "[I", .constant RX7 150 65535] ++ wsX70 ++ (va_wsS RX7 95 yX7_highest wsMX7_highest) ++ (wsV RX7 146 RX7 yX7_cutTo wsMX7_cutTo) ++ (va_wsS RX7 151 yX7_lowest wsMX7_lowest))
theorem iwsMX7_narrowOrder_in7 : ∀ w ∈ wsX70, w ∈ wsMX7_narrowOrder := fun _ h => List.mem_cons_of_mem _ (List.mem_append_left _ (List.mem_append_left _ (List.mem_append_left _ (List.mem_append_right _ h))))
theorem gwsMX7_narrowOrder_0 : GoodIn wsMX7_narrowOrder (va_wsS RX7 95 yX7_highest wsMX7_highest) := goodIn_sub (fun _ h => List.mem_cons_of_mem _ (List.mem_append_left _ (List.mem_append_left _ (List.mem_append_right _ h)))) (gdS (by decide +kernel) gdwsMX7_highest)
theorem gwsMX7_narrowOrder_1 : GoodIn wsMX7_narrowOrder (wsV RX7 146 RX7 yX7_cutTo wsMX7_cutTo) := goodIn_sub (fun _ h => List.mem_cons_of_mem _ (List.mem_append_left _ (List.mem_append_right _ h))) (gdV (by decide +kernel) gdwsMX7_cutTo)
theorem gwsMX7_narrowOrder_2 : GoodIn wsMX7_narrowOrder (va_wsS RX7 151 yX7_lowest wsMX7_lowest) := goodIn_sub (fun _ h => List.mem_cons_of_mem _ (List.mem_append_right _ h)) (gdS (by decide +kernel) gdwsMX7_lowest)
theorem gdwsMX7_narrowOrder : wsMX7_narrowOrder.all goodWord = true := gdC rfl (gdA (gdA (gdA (gdA (by decide +kernel : ([.fieldLink RX7 36 "OptimaWorks$ValueDesk" "now" "[I", .constant RX7 150 65535] : List Cond).all goodWord = true) gdwsX70) (gdS (by decide +kernel) gdwsMX7_highest)) (gdV (by decide +kernel) gdwsMX7_cutTo)) (gdS (by decide +kernel) gdwsMX7_lowest))
theorem hm_m_X7_narrowOrder_0 : (.fieldLink RX7 36 "OptimaWorks$ValueDesk" "now" "[I" : Cond) ∈ wsMX7_narrowOrder := by decide +kernel
theorem hm_m_X7_narrowOrder_1 : (.constant RX7 150 65535 : Cond) ∈ wsMX7_narrowOrder := by decide +kernel
set_option maxHeartbeats 4000000 in
set_option maxRecDepth 100000 in
/-- one after the other -/
theorem m_X7_narrowOrder (l : Launch) (dC : Nat → ClassId) (dI : Nat → Nat → Nat) (hV : Nat → Nat) (aV : Nat → Nat) (kV : Nat → ClassId) (iV_holders : Int32) (iV_rules : Int32) (fV_pairs : Nat → Int32) (fV_domain : Nat → Int32) (fV_kind : Nat → Int32) (fV_a : Nat → Int32) (fV_b : Nat → Int32) (fV_c : Nat → Int32) (fV_rulePairs : Nat → Int32) (fV_lastHolder : Nat → Int32) (fV_now : Nat → Int32) (iV_doneFor : Int32) (iV_changed : Int32) (gV_fore : Nat → Int64) (gV_back : Nat → Int64) (fV_together : Nat → Int32) (fV_member : Nat → Int32) (gV_list : Nat → Int64) (dV_list : Nat) (nV_list : Nat) (iV_listed : Int32) (iV_listDone : Int32) (p1 : Int32) (p2 : Int32) (p3 : Int32) (b_iV_holders : 0 ≤ iV_holders.toInt ∧ iV_holders.toInt ≤ 10) (b_iV_rules : 0 ≤ iV_rules.toInt ∧ iV_rules.toInt ≤ 12) (b_fV_kind : ∀ q : Nat, 0 ≤ (fV_kind q).toInt ∧ (fV_kind q).toInt ≤ 4) (b_iV_changed : 0 ≤ iV_changed.toInt ∧ iV_changed.toInt ≤ 1) (b_fV_member : ∀ q : Nat, (-1) ≤ (fV_member q).toInt ∧ (fV_member q).toInt ≤ 15) (b_nV_list : 0 ≤ nV_list ∧ nV_list ≤ 20000) (b_iV_listed : (-1) ≤ iV_listed.toInt ∧ iV_listed.toInt ≤ 5000) (b_iV_listDone : 0 ≤ iV_listDone.toInt ∧ iV_listDone.toInt ≤ 1) (b_RuV : RuV fV_kind fV_a fV_b fV_c fV_lastHolder) (b_lst : iV_listed.toInt ≤ ((nV_list : Nat) : Int)) (b_p1 : 0 ≤ p1.toInt ∧ p1.toInt ≤ 9) (b_p3 : 0 ≤ p3.toInt ∧ p3.toInt ≤ 9) (sz : Nat) : Met l yX7_narrowOrder wsMX7_narrowOrder ({ frames := 1, cells := 0, slots := 0, locals := 22 }) (va_Pc [.ref (hV 0), .int p1, .int p2, .int p3] (fun U => U.heap.size = sz ∧ va_P (dC, dI) vwCl (WV hV aV kV iV_holders iV_rules fV_pairs fV_domain fV_kind fV_a fV_b fV_c fV_rulePairs fV_lastHolder fV_now iV_doneFor iV_changed gV_fore gV_back fV_together fV_member gV_list dV_list nV_list iV_listed iV_listDone) U.heap ∧ va_K (dC, dI) vwCl (tV kV) U ∧ va_D (fun _ => True) (WV hV aV kV iV_holders iV_rules fV_pairs fV_domain fV_kind fV_a fV_b fV_c fV_rulePairs fV_lastHolder fV_now iV_doneFor iV_changed gV_fore gV_back fV_together fV_member gV_list dV_list nV_list iV_listed iV_listDone))) (va_Qv (fun (u : (Nat → Int32) × (Int32)) => (0 ≤ (u.2).toInt ∧ (u.2).toInt ≤ 1)) (fun (u : (Nat → Int32) × (Int32)) t => va_P (dC, dI) vwCl (WV hV aV kV iV_holders iV_rules fV_pairs fV_domain fV_kind fV_a fV_b fV_c fV_rulePairs fV_lastHolder (u.1) iV_doneFor (u.2) gV_fore gV_back fV_together fV_member gV_list dV_list nV_list iV_listed iV_listDone) t.heap ∧ va_D (va_A (WV hV aV kV iV_holders iV_rules fV_pairs fV_domain fV_kind fV_a fV_b fV_c fV_rulePairs fV_lastHolder fV_now iV_doneFor iV_changed gV_fore gV_back fV_together fV_member gV_list dV_list nV_list iV_listed iV_listDone) sz) (WV hV aV kV iV_holders iV_rules fV_pairs fV_domain fV_kind fV_a fV_b fV_c fV_rulePairs fV_lastHolder (u.1) iV_doneFor (u.2) gV_fore gV_back fV_together fV_member gV_list dV_list nV_list iV_listed iV_listDone)) (va_A (WV hV aV kV iV_holders iV_rules fV_pairs fV_domain fV_kind fV_a fV_b fV_c fV_rulePairs fV_lastHolder fV_now iV_doneFor iV_changed gV_fore gV_back fV_together fV_member gV_list dV_list nV_list iV_listed iV_listDone) sz)) 0 0 (va_A (WV hV aV kV iV_holders iV_rules fV_pairs fV_domain fV_kind fV_a fV_b fV_c fV_rulePairs fV_lastHolder fV_now iV_doneFor iV_changed gV_fore gV_back fV_together fV_member gV_list dV_list nV_list iV_listed iV_listDone) sz) := by
  refine Met.ofW (cc := cX7_narrowOrder) (maxL := 6) (ret := none) (by decide) rfl ?_
  intro p e s m args below meth c s₁ B hml hv
  obtain ⟨rfl, hsz, hP, hK, hD0⟩ := hv
  have hx := B.exec
  have hb := B.bytes
  have hr := B.returns
  have hts := atoms_spec (ws := wsMX7_narrowOrder) B.pre
  have hown : s.vm.findClass RX7 = some m.cls := findClass_of_methodNamed B.named
  have hlocks := B.notSynchronized
  subst hsz
  have hD := hD0.self (sz := s.heap.size)
  generalize hAe : va_A (WV hV aV kV iV_holders iV_rules fV_pairs fV_domain fV_kind fV_a fV_b fV_c fV_rulePairs fV_lastHolder fV_now iV_doneFor iV_changed gV_fore gV_back fV_together fV_member gV_list dV_list nV_list iV_listed iV_listDone) s.heap.size = A at hD ⊢
  have hA : ∀ q : Nat, s.heap.size ≤ q → A q := fun q h => by rw [← hAe]; exact Or.inr h
  have hS : va_S A s.heap s.heap [] := va_S.rf
  have hl := lv_entry ([.ref (hV 0), .int p1, .int p2, .int p3]) (n := 6) (Nat.le_of_ble_eq_true rfl)
  rw [lg_entry_eq]
  generalize (lg_sl ([.ref (hV 0), .int p1, .int p2, .int p3]) ++ List.replicate (6 - (lg_sl ([.ref (hV 0), .int p1, .int p2, .int p3])).length) Slot.unset).toArray = ls at hl ⊢
  have hl : lv_has ls 6 [(0, .ref (hV 0)), (1, .int p1), (2, .int p2), (3, .int p3)] := hl
  refine lv_iload_n hx hb dX7_narrowOrder_0 rfl (lv_at hl 1 rfl) ?_
  refine lv_iload_n hx hb dX7_narrowOrder_1 rfl (lv_at hl 3 rfl) ?_
  refine lv_icmp_ne (tgt := 21) hx hb dX7_narrowOrder_2 (by decide) (fun c_2 => ?_) (fun c_2 => ?_)
  · have t_2 : p1.toInt ≠ p3.toInt := toI_ne c_2 rfl rfl
    refine lv_aload_n hx hb dX7_narrowOrder_21 rfl (lv_at hl 0 rfl) ?_
    refine va_get (D := (dC, dI)) (ci := 7) (v := .ref (aV 8)) (C := RX7) (T := TX7) (N := 20) hx hb hts iwsMX7_narrowOrder_in7 hown hK hP 0 rfl rfl 10 (by decide) (hts _ hm_m_X7_narrowOrder_0) (fun _ h9 => h9) rfl dX7_narrowOrder_22 ?_
    refine lv_iload_n hx hb dX7_narrowOrder_25 rfl (lv_at hl 3 rfl) ?_
    refine va_iald (cA := kV 8) (n := 10) (f := fV_now) hx hb hK hP 9 8 rfl rfl (vp_in_iff.mpr ⟨b_p3.1, (Int.lt_of_le_of_lt (b_p3.2) (by decide))⟩) dX7_narrowOrder_26 ?_
    refine lv_topi (fun v1 hv1 => ?_)
    clear hv1
    have hFc := noneFree hS hA
    refine va_calli (va_runS (As := [.int v1]) (rest := []) ⟨hx, hb, hml, hown, hts⟩ (m_X7_highest l dC dI v1 s.heap.size) (va_cwS 1 hts gwsMX7_narrowOrder_0 rfl rfl rfl (by decide +kernel) ⟨by decide +kernel, by decide +kernel⟩) ⟨fun a U g mk q => by obtain ⟨q0, q1, qP, qK, qD⟩ := q; exact ⟨q0, q1, qP, va_K.moved (u := U) (U := U.calling g mk a) (Vm.Alike.refl U.vm) qK, qD⟩, fun U hU9 hW => ⟨rfl, by rw [hU9], by rw [hU9]; exact nilP, va_K.moved hW.alike (hK.sub (tys' := []) [] rfl), nilD⟩⟩ rfl rfl hl.1 rfl (lv_room (Nat.le_of_ble_eq_true rfl)) dX7_narrowOrder_27 (by decide +kernel)) hS (fun q _ h => hFc q h) hFc (fun r2 u t9_ H1 locs ht hvm hw9 hB9 hz1 hk1 hS => ?_)
    have b_r2 := hw9
    try dsimp only at b_r2
    clear hB9
    have hP := keepAll hP hk1
    generalize H1 = H at hP hS ⊢
    have hP : va_P (dC, dI) vwCl (WV hV aV kV iV_holders iV_rules fV_pairs fV_domain fV_kind fV_a fV_b fV_c fV_rulePairs fV_lastHolder fV_now iV_doneFor iV_changed gV_fore gV_back fV_together fV_member gV_list dV_list nV_list iV_listed iV_listDone) H := hP
    have hD := fz_sd hP (hD) rfl
    refine lv_iload_n hx hb dX7_narrowOrder_30 rfl (lv_at hl 2 rfl) ?_
    refine lv_isub hx hb dX7_narrowOrder_31 ?_
    refine lv_topi (fun y3 hy3 => ?_)
    obtain rfl : (iI (r2.toInt - p2.toInt)) = y3 := (hy3.trans (iI_sub2 (iI_of _) (iI_of _))).symm
    refine lv_istore hx hb dX7_narrowOrder_32 hl (by decide) rfl (fun ls (hl : lv_has ls _ ([(4, .int (iI (r2.toInt - p2.toInt))), (0, .ref (hV 0)), (1, .int p1), (2, .int p2), (3, .int p3)])) => ?_)
    refine lv_aload_n hx hb dX7_narrowOrder_34 rfl (lv_at hl 1 rfl) ?_
    refine lv_iload_n hx hb dX7_narrowOrder_35 rfl (lv_at hl 2 rfl) ?_
    refine lv_iload hx hb dX7_narrowOrder_36 (lv_at hl 0 rfl) ?_
    refine W.cut (pc := 63) (fun H locs ls stk => ∃ (k0_j4 : Int32),  stk = [.int k0_j4, .int p1, .ref (hV 0)] ∧ va_P (dC, dI) vwCl (WV hV aV kV iV_holders iV_rules fV_pairs fV_domain fV_kind fV_a fV_b fV_c fV_rulePairs fV_lastHolder fV_now iV_doneFor iV_changed gV_fore gV_back fV_together fV_member gV_list dV_list nV_list iV_listed iV_listDone) H ∧ va_D A (WV hV aV kV iV_holders iV_rules fV_pairs fV_domain fV_kind fV_a fV_b fV_c fV_rulePairs fV_lastHolder fV_now iV_doneFor iV_changed gV_fore gV_back fV_together fV_member gV_list dV_list nV_list iV_listed iV_listDone) ∧ va_S A s.heap H locs ∧ lv_has ls 6 [(4, .int (iI (r2.toInt - p2.toInt))), (0, .ref (hV 0)), (1, .int p1), (2, .int p2), (3, .int p3)]) (fun join4 => ?_) ?_
    · refine lv_if_ge (tgt := 45) hx hb dX7_narrowOrder_38 (by decide) (fun c_38 => ?_) (fun c_38 => ?_)
      · first | (have t_38 : (r2.toInt - p2.toInt) ≥ 0 := toI_ge c_38 (iI_t (by omega) (by omega)) (by decide : (0 : Int32).toInt = 0)) | skip
        refine lv_iload hx hb dX7_narrowOrder_45 (lv_at hl 0 rfl) ?_
        refine lv_bipush (v := 16) hx hb dX7_narrowOrder_47 (by decide) ?_
        refine lv_icmp_lt (tgt := 57) hx hb dX7_narrowOrder_49 (by decide) (fun c_49 => ?_) (fun c_49 => ?_)
        · first | (have t_49 : (r2.toInt - p2.toInt) < 16 := toI_lt c_49 (iI_t (by omega) (by omega)) (by decide : (16 : Int32).toInt = 16)) | skip
          refine lv_iconst (v := 2) hx hb dX7_narrowOrder_57 (by decide) ?_
          refine lv_iload hx hb dX7_narrowOrder_58 (lv_at hl 0 rfl) ?_
          refine lv_ishl hx hb dX7_narrowOrder_60 ?_
          refine lv_topi (fun v6 hv6 => ?_)
          clear hv6
          refine lv_iconst (v := 1) hx hb dX7_narrowOrder_61 (by decide) ?_
          refine lv_isub hx hb dX7_narrowOrder_62 ?_
          refine lv_topi (fun y7 hy7 => ?_)
          obtain rfl : (iI (v6.toInt - 1)) = y7 := (hy7.trans (iI_sub2 (iI_of _) (by decide : (1 : Int32) = iI 1))).symm
          have hl : lv_has _ _ ([(4, .int (iI (r2.toInt - p2.toInt))), (0, .ref (hV 0)), (1, .int p1), (2, .int p2), (3, .int p3)]) := lv_sub hl [0, 1, 2, 3, 4] rfl
          exact join4 _ _ _ _ ⟨(iI (v6.toInt - 1)), rfl, hP, hD, hS, hl⟩
        · first | (have t_49 : ¬ (r2.toInt - p2.toInt) < 16 := toI_nlt c_49 (iI_t (by omega) (by omega)) (by decide : (16 : Int32).toInt = 16)) | skip
          refine lv_ldc (v := 65535) hx hb hown (hts _ hm_m_X7_narrowOrder_1) dX7_narrowOrder_52 ?_
          refine lv_goto (tgt := 63) hx hb dX7_narrowOrder_54 (by decide) ?_
          have hl : lv_has _ _ ([(4, .int (iI (r2.toInt - p2.toInt))), (0, .ref (hV 0)), (1, .int p1), (2, .int p2), (3, .int p3)]) := lv_sub hl [0, 1, 2, 3, 4] rfl
          exact join4 _ _ _ _ ⟨65535, rfl, hP, hD, hS, hl⟩
      · first | (have t_38 : ¬ (r2.toInt - p2.toInt) ≥ 0 := toI_nge c_38 (iI_t (by omega) (by omega)) (by decide : (0 : Int32).toInt = 0)) | skip
        refine lv_iconst (v := 0) hx hb dX7_narrowOrder_41 (by decide) ?_
        refine lv_goto (tgt := 63) hx hb dX7_narrowOrder_42 (by decide) ?_
        have hl : lv_has _ _ ([(4, .int (iI (r2.toInt - p2.toInt))), (0, .ref (hV 0)), (1, .int p1), (2, .int p2), (3, .int p3)]) := lv_sub hl [0, 1, 2, 3, 4] rfl
        exact join4 _ _ _ _ ⟨0, rfl, hP, hD, hS, hl⟩
    · rintro H locs ls stk ⟨k0_j4, rfl, hP, hD, hS, hl⟩
      have hFc := allFree hD hS hA
      refine va_callv (va_runV (As := [.int p1, .int k0_j4]) (rest := []) ⟨hx, hb, hml, hown, hts⟩ (m_X7_cutTo l dC dI hV aV kV iV_holders iV_rules fV_pairs fV_domain fV_kind fV_a fV_b fV_c fV_rulePairs fV_lastHolder fV_now iV_doneFor iV_changed gV_fore gV_back fV_together fV_member gV_list dV_list nV_list iV_listed iV_listDone p1 k0_j4 (b_iV_holders) (b_iV_rules) b_fV_kind (b_iV_changed) b_fV_member (by first | exact b_nV_list | with_reducible assumption | exact ⟨by omega, by omega⟩ | assumption) (b_iV_listed) (b_iV_listDone) (by first | with_reducible assumption | omega | assumption) (by first | with_reducible assumption | omega | assumption) (b_p1) H.size) (cwV 2 hts gwsMX7_narrowOrder_1 rfl rfl rfl hd_yX7_cutTo_RX7 (by decide +kernel)) (fz_pre (va_recv hK hP (ci := 7) (q0 := 0) rfl rfl) hP hK hD) rfl rfl hl.1 rfl (lv_room (Nat.le_of_ble_eq_true rfl)) dX7_narrowOrder_63 (by decide +kernel)) hS (fun q _ h => hFc q h) hFc (fun u t9_ H locs ht hvm hw9 hB9 hz1 hk1 hS => ?_)
      revert u hw9 hB9
      refine fz_p2 ?_
      intro fV_now_8 iV_changed_8 hw9 hB9
      try dsimp only at hw9 hB9
      have b_iV_changed_8 := hw9
      try dsimp only at b_iV_changed_8
      have hP : va_P (dC, dI) vwCl (WV hV aV kV iV_holders iV_rules fV_pairs fV_domain fV_kind fV_a fV_b fV_c fV_rulePairs fV_lastHolder fV_now_8 iV_doneFor iV_changed_8 gV_fore gV_back fV_together fV_member gV_list dV_list nV_list iV_listed iV_listDone) H := fz_P ht hB9.1
      have hD := fz_sd hP (hB9.2.weaken (fun _ q _ h => hFc q.1 h)) rfl
      refine lv_aload_n hx hb dX7_narrowOrder_66 rfl (lv_at hl 1 rfl) ?_
      refine va_get (D := (dC, dI)) (ci := 7) (v := .ref (aV 8)) (C := RX7) (T := TX7) (N := 20) hx hb hts iwsMX7_narrowOrder_in7 hown hK hP 0 rfl rfl 10 (by decide) (hts _ hm_m_X7_narrowOrder_0) (fun _ h9 => h9) rfl dX7_narrowOrder_67 ?_
      refine lv_iload_n hx hb dX7_narrowOrder_70 rfl (lv_at hl 2 rfl) ?_
      refine va_iald (cA := kV 8) (n := 10) (f := fV_now_8) hx hb hK hP 9 8 rfl rfl (vp_in_iff.mpr ⟨b_p1.1, (Int.lt_of_le_of_lt (b_p1.2) (by decide))⟩) dX7_narrowOrder_71 ?_
      refine lv_topi (fun v9 hv9 => ?_)
      clear hv9
      have hFc := noneFree hS hA
      refine va_calli (va_runS (As := [.int v9]) (rest := []) ⟨hx, hb, hml, hown, hts⟩ (m_X7_lowest l dC dI v9 H.size) (va_cwS 1 hts gwsMX7_narrowOrder_2 rfl rfl rfl (by decide +kernel) ⟨by decide +kernel, by decide +kernel⟩) ⟨fun a U g mk q => by obtain ⟨q0, q1, qP, qK, qD⟩ := q; exact ⟨q0, q1, qP, va_K.moved (u := U) (U := U.calling g mk a) (Vm.Alike.refl U.vm) qK, qD⟩, fun U hU9 hW => ⟨rfl, by rw [hU9], by rw [hU9]; exact nilP, va_K.moved hW.alike (hK.sub (tys' := []) [] rfl), nilD⟩⟩ rfl rfl hl.1 rfl (lv_room (Nat.le_of_ble_eq_true rfl)) dX7_narrowOrder_72 (by decide +kernel)) hS (fun q _ h => hFc q h) hFc (fun r10 u t9_ H1 locs ht hvm hw9 hB9 hz1 hk1 hS => ?_)
      have b_r10 := hw9
      try dsimp only at b_r10
      clear hB9
      have hP := keepAll hP hk1
      generalize H1 = H at hP hS ⊢
      have hP : va_P (dC, dI) vwCl (WV hV aV kV iV_holders iV_rules fV_pairs fV_domain fV_kind fV_a fV_b fV_c fV_rulePairs fV_lastHolder fV_now_8 iV_doneFor iV_changed_8 gV_fore gV_back fV_together fV_member gV_list dV_list nV_list iV_listed iV_listDone) H := hP
      have hD := fz_sd hP (hD) rfl
      refine lv_iload_n hx hb dX7_narrowOrder_75 rfl (lv_at hl 3 rfl) ?_
      refine lv_iadd hx hb dX7_narrowOrder_76 ?_
      refine lv_topi (fun y11 hy11 => ?_)
      obtain rfl : (iI (r10.toInt + p2.toInt)) = y11 := (hy11.trans (iI_add2 (iI_of _) (iI_of _))).symm
      refine lv_istore hx hb dX7_narrowOrder_77 hl (by decide) rfl (fun ls (hl : lv_has ls _ ([(5, .int (iI (r10.toInt + p2.toInt))), (4, .int (iI (r2.toInt - p2.toInt))), (0, .ref (hV 0)), (1, .int p1), (2, .int p2), (3, .int p3)])) => ?_)
      refine lv_aload_n hx hb dX7_narrowOrder_79 rfl (lv_at hl 2 rfl) ?_
      refine lv_iload_n hx hb dX7_narrowOrder_80 rfl (lv_at hl 5 rfl) ?_
      refine lv_iload hx hb dX7_narrowOrder_81 (lv_at hl 0 rfl) ?_
      refine lv_bipush (v := 16) hx hb dX7_narrowOrder_83 (by decide) ?_
      refine W.cut (pc := 109) (fun H locs ls stk => ∃ (k0_j5 : Int32),  stk = [.int k0_j5, .int p3, .ref (hV 0)] ∧ va_P (dC, dI) vwCl (WV hV aV kV iV_holders iV_rules fV_pairs fV_domain fV_kind fV_a fV_b fV_c fV_rulePairs fV_lastHolder fV_now_8 iV_doneFor iV_changed_8 gV_fore gV_back fV_together fV_member gV_list dV_list nV_list iV_listed iV_listDone) H ∧ va_D A (WV hV aV kV iV_holders iV_rules fV_pairs fV_domain fV_kind fV_a fV_b fV_c fV_rulePairs fV_lastHolder fV_now_8 iV_doneFor iV_changed_8 gV_fore gV_back fV_together fV_member gV_list dV_list nV_list iV_listed iV_listDone) ∧ va_S A s.heap H locs ∧ lv_has ls 6 [(5, .int (iI (r10.toInt + p2.toInt))), (4, .int (iI (r2.toInt - p2.toInt))), (0, .ref (hV 0)), (1, .int p1), (2, .int p2), (3, .int p3)]) (fun join5 => ?_) ?_
      · refine lv_icmp_lt (tgt := 92) hx hb dX7_narrowOrder_85 (by decide) (fun c_85 => ?_) (fun c_85 => ?_)
        · first | (have t_85 : (r10.toInt + p2.toInt) < 16 := toI_lt c_85 (iI_t (by omega) (by omega)) (by decide : (16 : Int32).toInt = 16)) | skip
          refine lv_iload hx hb dX7_narrowOrder_92 (lv_at hl 0 rfl) ?_
          refine lv_if_gt (tgt := 102) hx hb dX7_narrowOrder_94 (by decide) (fun c_94 => ?_) (fun c_94 => ?_)
          · first | (have t_94 : (r10.toInt + p2.toInt) > 0 := toI_gt c_94 (iI_t (by omega) (by omega)) (by decide : (0 : Int32).toInt = 0)) | skip
            refine lv_ldc (v := 65535) hx hb hown (hts _ hm_m_X7_narrowOrder_1) dX7_narrowOrder_102 ?_
            refine lv_iconst (v := (-1)) hx hb dX7_narrowOrder_104 (by decide) ?_
            refine lv_iload hx hb dX7_narrowOrder_105 (lv_at hl 0 rfl) ?_
            refine lv_ishl hx hb dX7_narrowOrder_107 ?_
            refine lv_topi (fun v14 hv14 => ?_)
            clear hv14
            refine lv_iand hx hb dX7_narrowOrder_108 ?_
            refine lv_topi (fun v15 hv15 => ?_)
            have b_v15 : 0 ≤ v15.toInt ∧ v15.toInt ≤ 65535 := by rw [hv15]; exact and_rngL _ (by decide) (by decide)
            clear hv15
            have hl : lv_has _ _ ([(5, .int (iI (r10.toInt + p2.toInt))), (4, .int (iI (r2.toInt - p2.toInt))), (0, .ref (hV 0)), (1, .int p1), (2, .int p2), (3, .int p3)]) := lv_sub hl [0, 1, 2, 3, 4, 5] rfl
            exact join5 _ _ _ _ ⟨v15, rfl, hP, hD, hS, hl⟩
          · first | (have t_94 : ¬ (r10.toInt + p2.toInt) > 0 := toI_ngt c_94 (iI_t (by omega) (by omega)) (by decide : (0 : Int32).toInt = 0)) | skip
            refine lv_ldc (v := 65535) hx hb hown (hts _ hm_m_X7_narrowOrder_1) dX7_narrowOrder_97 ?_
            refine lv_goto (tgt := 109) hx hb dX7_narrowOrder_99 (by decide) ?_
            have hl : lv_has _ _ ([(5, .int (iI (r10.toInt + p2.toInt))), (4, .int (iI (r2.toInt - p2.toInt))), (0, .ref (hV 0)), (1, .int p1), (2, .int p2), (3, .int p3)]) := lv_sub hl [0, 1, 2, 3, 4, 5] rfl
            exact join5 _ _ _ _ ⟨65535, rfl, hP, hD, hS, hl⟩
        · first | (have t_85 : ¬ (r10.toInt + p2.toInt) < 16 := toI_nlt c_85 (iI_t (by omega) (by omega)) (by decide : (16 : Int32).toInt = 16)) | skip
          refine lv_iconst (v := 0) hx hb dX7_narrowOrder_88 (by decide) ?_
          refine lv_goto (tgt := 109) hx hb dX7_narrowOrder_89 (by decide) ?_
          have hl : lv_has _ _ ([(5, .int (iI (r10.toInt + p2.toInt))), (4, .int (iI (r2.toInt - p2.toInt))), (0, .ref (hV 0)), (1, .int p1), (2, .int p2), (3, .int p3)]) := lv_sub hl [0, 1, 2, 3, 4, 5] rfl
          exact join5 _ _ _ _ ⟨0, rfl, hP, hD, hS, hl⟩
      · rintro H locs ls stk ⟨k0_j5, rfl, hP, hD, hS, hl⟩
        have hFc := allFree hD hS hA
        refine va_callv (va_runV (As := [.int p3, .int k0_j5]) (rest := []) ⟨hx, hb, hml, hown, hts⟩ (m_X7_cutTo l dC dI hV aV kV iV_holders iV_rules fV_pairs fV_domain fV_kind fV_a fV_b fV_c fV_rulePairs fV_lastHolder fV_now_8 iV_doneFor iV_changed_8 gV_fore gV_back fV_together fV_member gV_list dV_list nV_list iV_listed iV_listDone p3 k0_j5 (b_iV_holders) (b_iV_rules) b_fV_kind (by first | exact b_iV_changed_8 | with_reducible assumption | exact ⟨by omega, by omega⟩ | assumption) b_fV_member (by first | exact b_nV_list | with_reducible assumption | exact ⟨by omega, by omega⟩ | assumption) (b_iV_listed) (b_iV_listDone) (by first | with_reducible assumption | omega | assumption) (by first | with_reducible assumption | omega | assumption) (b_p3) H.size) (cwV 2 hts gwsMX7_narrowOrder_1 rfl rfl rfl hd_yX7_cutTo_RX7 (by decide +kernel)) (fz_pre (va_recv hK hP (ci := 7) (q0 := 0) rfl rfl) hP hK hD) rfl rfl hl.1 rfl (lv_room (Nat.le_of_ble_eq_true rfl)) dX7_narrowOrder_109 (by decide +kernel)) hS (fun q _ h => hFc q h) hFc (fun u t9_ H locs ht hvm hw9 hB9 hz1 hk1 hS => ?_)
        revert u hw9 hB9
        refine fz_p2 ?_
        intro fV_now_16 iV_changed_16 hw9 hB9
        try dsimp only at hw9 hB9
        have b_iV_changed_16 := hw9
        try dsimp only at b_iV_changed_16
        have hP : va_P (dC, dI) vwCl (WV hV aV kV iV_holders iV_rules fV_pairs fV_domain fV_kind fV_a fV_b fV_c fV_rulePairs fV_lastHolder fV_now_16 iV_doneFor iV_changed_16 gV_fore gV_back fV_together fV_member gV_list dV_list nV_list iV_listed iV_listDone) H := fz_P ht hB9.1
        have hD := fz_sd hP (hB9.2.weaken (fun _ q _ h => hFc q.1 h)) rfl
        refine W.widen (k := 0) (n := 0) (by decide +kernel) (by decide +kernel) ?_
        exact W.vret hx hb hr (fun t9_ ht hW => ⟨⟨(fV_now_16, iV_changed_16), rfl, (by (try dsimp only); exact (by first | exact b_iV_changed_16 | with_reducible assumption | exact ⟨by omega, by omega⟩ | assumption)), by rw [ht]; exact hP, hD⟩, hS.F ht⟩) hS.2.2 dX7_narrowOrder_112
  · have t_2 : p1.toInt = p3.toInt := toI_nne c_2 rfl rfl
    refine lv_aload_n hx hb dX7_narrowOrder_5 rfl (lv_at hl 0 rfl) ?_
    refine lv_iload_n hx hb dX7_narrowOrder_6 rfl (lv_at hl 1 rfl) ?_
    refine lv_iload_n hx hb dX7_narrowOrder_7 rfl (lv_at hl 2 rfl) ?_
    refine W.cut (pc := 17) (fun H locs ls stk => ∃ (k0_j6 : Int32), (0 ≤ k0_j6.toInt ∧ k0_j6.toInt ≤ 65535) ∧  stk = [.int k0_j6, .int p1, .ref (hV 0)] ∧ va_P (dC, dI) vwCl (WV hV aV kV iV_holders iV_rules fV_pairs fV_domain fV_kind fV_a fV_b fV_c fV_rulePairs fV_lastHolder fV_now iV_doneFor iV_changed gV_fore gV_back fV_together fV_member gV_list dV_list nV_list iV_listed iV_listDone) H ∧ va_D A (WV hV aV kV iV_holders iV_rules fV_pairs fV_domain fV_kind fV_a fV_b fV_c fV_rulePairs fV_lastHolder fV_now iV_doneFor iV_changed gV_fore gV_back fV_together fV_member gV_list dV_list nV_list iV_listed iV_listDone) ∧ va_S A s.heap H locs ∧ lv_has ls 6 [(0, .ref (hV 0)), (1, .int p1), (2, .int p2), (3, .int p3)]) (fun join6 => ?_) ?_
    · refine lv_if_gt (tgt := 16) hx hb dX7_narrowOrder_8 (by decide) (fun c_8 => ?_) (fun c_8 => ?_)
      · have t_8 : p2.toInt > 0 := toI_gt c_8 rfl (by decide : (0 : Int32).toInt = 0)
        refine lv_iconst (v := 0) hx hb dX7_narrowOrder_16 (by decide) ?_
        have hl : lv_has _ _ ([(0, .ref (hV 0)), (1, .int p1), (2, .int p2), (3, .int p3)]) := lv_sub hl [0, 1, 2, 3] rfl
        exact join6 _ _ _ _ ⟨0, (show 0 ≤ (0 : Int32).toInt ∧ (0 : Int32).toInt ≤ 65535 from by decide), rfl, hP, hD, hS, hl⟩
      · have t_8 : ¬ p2.toInt > 0 := toI_ngt c_8 rfl (by decide : (0 : Int32).toInt = 0)
        refine lv_ldc (v := 65535) hx hb hown (hts _ hm_m_X7_narrowOrder_1) dX7_narrowOrder_11 ?_
        refine lv_goto (tgt := 17) hx hb dX7_narrowOrder_13 (by decide) ?_
        have hl : lv_has _ _ ([(0, .ref (hV 0)), (1, .int p1), (2, .int p2), (3, .int p3)]) := lv_sub hl [0, 1, 2, 3] rfl
        exact join6 _ _ _ _ ⟨65535, (show 0 ≤ (65535 : Int32).toInt ∧ (65535 : Int32).toInt ≤ 65535 from by decide), rfl, hP, hD, hS, hl⟩
    · rintro H locs ls stk ⟨k0_j6, b_k0_j6, rfl, hP, hD, hS, hl⟩
      have hFc := allFree hD hS hA
      refine va_callv (va_runV (As := [.int p1, .int k0_j6]) (rest := []) ⟨hx, hb, hml, hown, hts⟩ (m_X7_cutTo l dC dI hV aV kV iV_holders iV_rules fV_pairs fV_domain fV_kind fV_a fV_b fV_c fV_rulePairs fV_lastHolder fV_now iV_doneFor iV_changed gV_fore gV_back fV_together fV_member gV_list dV_list nV_list iV_listed iV_listDone p1 k0_j6 (b_iV_holders) (b_iV_rules) b_fV_kind (b_iV_changed) b_fV_member (by first | exact b_nV_list | with_reducible assumption | exact ⟨by omega, by omega⟩ | assumption) (b_iV_listed) (b_iV_listDone) (by first | with_reducible assumption | omega | assumption) (by first | with_reducible assumption | omega | assumption) (b_p1) H.size) (cwV 2 hts gwsMX7_narrowOrder_1 rfl rfl rfl hd_yX7_cutTo_RX7 (by decide +kernel)) (fz_pre (va_recv hK hP (ci := 7) (q0 := 0) rfl rfl) hP hK hD) rfl rfl hl.1 rfl (lv_room (Nat.le_of_ble_eq_true rfl)) dX7_narrowOrder_17 (by decide +kernel)) hS (fun q _ h => hFc q h) hFc (fun u t9_ H locs ht hvm hw9 hB9 hz1 hk1 hS => ?_)
      revert u hw9 hB9
      refine fz_p2 ?_
      intro fV_now_17 iV_changed_17 hw9 hB9
      try dsimp only at hw9 hB9
      have b_iV_changed_17 := hw9
      try dsimp only at b_iV_changed_17
      have hP : va_P (dC, dI) vwCl (WV hV aV kV iV_holders iV_rules fV_pairs fV_domain fV_kind fV_a fV_b fV_c fV_rulePairs fV_lastHolder fV_now_17 iV_doneFor iV_changed_17 gV_fore gV_back fV_together fV_member gV_list dV_list nV_list iV_listed iV_listDone) H := fz_P ht hB9.1
      have hD := fz_sd hP (hB9.2.weaken (fun _ q _ h => hFc q.1 h)) rfl
      refine W.widen (k := 0) (n := 0) (by decide +kernel) (by decide +kernel) ?_
      exact W.vret hx hb hr (fun t9_ ht hW => ⟨⟨(fV_now_17, iV_changed_17), rfl, (by (try dsimp only); exact (by first | exact b_iV_changed_17 | with_reducible assumption | exact ⟨by omega, by omega⟩ | assumption)), by rw [ht]; exact hP, hD⟩, hS.F ht⟩) hS.2.2 dX7_narrowOrder_20
theorem dX7_moveUp_0 : decode cX7_moveUp 0 = .ok (.lconst 0, 1) := dk_9 (by decide +kernel)
theorem dX7_moveUp_1 : decode cX7_moveUp 1 = .ok (.lstore_n 3, 1) := dk_66 (by decide +kernel)
theorem dX7_moveUp_2 : decode cX7_moveUp 2 = .ok (.iconst 0, 1) := dk_3 (by decide +kernel)
theorem dX7_moveUp_3 : decode cX7_moveUp 3 = .ok (.istore 5, 2) := dk_54 (by decide +kernel)
theorem dX7_moveUp_5 : decode cX7_moveUp 5 = .ok (.iload 5, 2) := dk_21 (by decide +kernel)
theorem dX7_moveUp_7 : decode cX7_moveUp 7 = .ok (.iconst 3, 1) := dk_6 (by decide +kernel)
theorem dX7_moveUp_8 : decode cX7_moveUp 8 = .ok (.if_icmp .ge 60, 3) := dk_162 (by decide +kernel)
theorem dX7_moveUp_11 : decode cX7_moveUp 11 = .ok (.aload_n 0, 1) := dk_42 (by decide +kernel)
theorem dX7_moveUp_12 : decode cX7_moveUp 12 = .ok (.getfield 43, 3) := dk_180 (by decide +kernel)
theorem dX7_moveUp_15 : decode cX7_moveUp 15 = .ok (.iload_n 1, 1) := dk_27 (by decide +kernel)
theorem dX7_moveUp_16 : decode cX7_moveUp 16 = .ok (.iconst 3, 1) := dk_6 (by decide +kernel)
theorem dX7_moveUp_17 : decode cX7_moveUp 17 = .ok (.imul, 1) := dk_104 (by decide +kernel)
theorem dX7_moveUp_18 : decode cX7_moveUp 18 = .ok (.iload 5, 2) := dk_21 (by decide +kernel)
theorem dX7_moveUp_20 : decode cX7_moveUp 20 = .ok (.iadd, 1) := dk_96 (by decide +kernel)
theorem dX7_moveUp_21 : decode cX7_moveUp 21 = .ok (.laload, 1) := dk_47 (by decide +kernel)
theorem dX7_moveUp_22 : decode cX7_moveUp 22 = .ok (.lstore 6, 2) := dk_55 (by decide +kernel)
theorem dX7_moveUp_24 : decode cX7_moveUp 24 = .ok (.aload_n 0, 1) := dk_42 (by decide +kernel)
theorem dX7_moveUp_25 : decode cX7_moveUp 25 = .ok (.getfield 43, 3) := dk_180 (by decide +kernel)
theorem dX7_moveUp_28 : decode cX7_moveUp 28 = .ok (.iload_n 1, 1) := dk_27 (by decide +kernel)
theorem dX7_moveUp_29 : decode cX7_moveUp 29 = .ok (.iconst 1, 1) := dk_4 (by decide +kernel)
theorem dX7_moveUp_30 : decode cX7_moveUp 30 = .ok (.iadd, 1) := dk_96 (by decide +kernel)
theorem dX7_moveUp_31 : decode cX7_moveUp 31 = .ok (.iconst 3, 1) := dk_6 (by decide +kernel)
theorem dX7_moveUp_32 : decode cX7_moveUp 32 = .ok (.imul, 1) := dk_104 (by decide +kernel)
theorem dX7_moveUp_33 : decode cX7_moveUp 33 = .ok (.iload 5, 2) := dk_21 (by decide +kernel)
theorem dX7_moveUp_35 : decode cX7_moveUp 35 = .ok (.iadd, 1) := dk_96 (by decide +kernel)
theorem dX7_moveUp_36 : decode cX7_moveUp 36 = .ok (.dup2, 1) := dk_92 (by decide +kernel)
theorem dX7_moveUp_37 : decode cX7_moveUp 37 = .ok (.laload, 1) := dk_47 (by decide +kernel)
theorem dX7_moveUp_38 : decode cX7_moveUp 38 = .ok (.lload 6, 2) := dk_22 (by decide +kernel)
theorem dX7_moveUp_40 : decode cX7_moveUp 40 = .ok (.iload_n 2, 1) := dk_28 (by decide +kernel)
theorem dX7_moveUp_41 : decode cX7_moveUp 41 = .ok (.lshl, 1) := dk_121 (by decide +kernel)
theorem dX7_moveUp_42 : decode cX7_moveUp 42 = .ok (.lload_n 3, 1) := dk_33 (by decide +kernel)
theorem dX7_moveUp_43 : decode cX7_moveUp 43 = .ok (.lor, 1) := dk_129 (by decide +kernel)
theorem dX7_moveUp_44 : decode cX7_moveUp 44 = .ok (.lor, 1) := dk_129 (by decide +kernel)
theorem dX7_moveUp_45 : decode cX7_moveUp 45 = .ok (.lastore, 1) := dk_80 (by decide +kernel)
theorem dX7_moveUp_46 : decode cX7_moveUp 46 = .ok (.iload_n 2, 1) := dk_28 (by decide +kernel)
theorem dX7_moveUp_47 : decode cX7_moveUp 47 = .ok (.ifCond .ne 7, 3) := dk_154 (by decide +kernel)
theorem dX7_moveUp_50 : decode cX7_moveUp 50 = .ok (.lconst 0, 1) := dk_9 (by decide +kernel)
theorem dX7_moveUp_51 : decode cX7_moveUp 51 = .ok (.goto 10, 3) := dk_167 (by decide +kernel)
theorem dX7_moveUp_54 : decode cX7_moveUp 54 = .ok (.lload 6, 2) := dk_22 (by decide +kernel)
theorem dX7_moveUp_56 : decode cX7_moveUp 56 = .ok (.bipush 64, 2) := dk_16 (by decide +kernel)
theorem dX7_moveUp_58 : decode cX7_moveUp 58 = .ok (.iload_n 2, 1) := dk_28 (by decide +kernel)
theorem dX7_moveUp_59 : decode cX7_moveUp 59 = .ok (.isub, 1) := dk_100 (by decide +kernel)
theorem dX7_moveUp_60 : decode cX7_moveUp 60 = .ok (.lushr, 1) := dk_125 (by decide +kernel)
theorem dX7_moveUp_61 : decode cX7_moveUp 61 = .ok (.lstore_n 3, 1) := dk_66 (by decide +kernel)
theorem dX7_moveUp_62 : decode cX7_moveUp 62 = .ok (.iinc 5 1, 3) := dk_132 (by decide +kernel)
theorem dX7_moveUp_65 : decode cX7_moveUp 65 = .ok (.goto (-60), 3) := dk_167 (by decide +kernel)
theorem dX7_moveUp_68 : decode cX7_moveUp 68 = .ok (.return_, 1) := dk_177 (by decide +kernel)
def wsMX7_moveUp : List Cond := .code yX7_moveUp cX7_moveUp 8 none :: ([.fieldLink RX7 43 "OptimaWorks$ValueDesk" "fore" "[J"] ++ wsX70)
theorem iwsMX7_moveUp_in7 : ∀ w ∈ wsX70, w ∈ wsMX7_moveUp := fun _ h => List.mem_cons_of_mem _ (List.mem_append_right _ h)
theorem gdwsMX7_moveUp : wsMX7_moveUp.all goodWord = true := gdC rfl (gdA (by decide +kernel : ([.fieldLink RX7 43 "OptimaWorks$ValueDesk" "fore" "[J"] : List Cond).all goodWord = true) gdwsX70)
theorem hm_m_X7_moveUp_0 : (.fieldLink RX7 43 "OptimaWorks$ValueDesk" "fore" "[J" : Cond) ∈ wsMX7_moveUp := by decide +kernel
set_option maxHeartbeats 4000000 in
set_option maxRecDepth 100000 in
/-- sums moved up -/
theorem m_X7_moveUp (l : Launch) (dC : Nat → ClassId) (dI : Nat → Nat → Nat) (hV : Nat → Nat) (aV : Nat → Nat) (kV : Nat → ClassId) (iV_holders : Int32) (iV_rules : Int32) (fV_pairs : Nat → Int32) (fV_domain : Nat → Int32) (fV_kind : Nat → Int32) (fV_a : Nat → Int32) (fV_b : Nat → Int32) (fV_c : Nat → Int32) (fV_rulePairs : Nat → Int32) (fV_lastHolder : Nat → Int32) (fV_now : Nat → Int32) (iV_doneFor : Int32) (iV_changed : Int32) (gV_fore : Nat → Int64) (gV_back : Nat → Int64) (fV_together : Nat → Int32) (fV_member : Nat → Int32) (gV_list : Nat → Int64) (dV_list : Nat) (nV_list : Nat) (iV_listed : Int32) (iV_listDone : Int32) (p1 : Int32) (p2 : Int32) (b_iV_holders : 0 ≤ iV_holders.toInt ∧ iV_holders.toInt ≤ 10) (b_iV_rules : 0 ≤ iV_rules.toInt ∧ iV_rules.toInt ≤ 12) (b_fV_kind : ∀ q : Nat, 0 ≤ (fV_kind q).toInt ∧ (fV_kind q).toInt ≤ 4) (b_iV_changed : 0 ≤ iV_changed.toInt ∧ iV_changed.toInt ≤ 1) (b_fV_member : ∀ q : Nat, (-1) ≤ (fV_member q).toInt ∧ (fV_member q).toInt ≤ 15) (b_nV_list : 0 ≤ nV_list ∧ nV_list ≤ 20000) (b_iV_listed : (-1) ≤ iV_listed.toInt ∧ iV_listed.toInt ≤ 5000) (b_iV_listDone : 0 ≤ iV_listDone.toInt ∧ iV_listDone.toInt ≤ 1) (b_RuV : RuV fV_kind fV_a fV_b fV_c fV_lastHolder) (b_lst : iV_listed.toInt ≤ ((nV_list : Nat) : Int)) (b_p1 : 0 ≤ p1.toInt ∧ p1.toInt ≤ 9) (sz : Nat) : Met l yX7_moveUp wsMX7_moveUp ({ frames := 0, cells := 0, slots := 0, locals := 0 }) (va_Pc [.ref (hV 0), .int p1, .int p2] (fun U => U.heap.size = sz ∧ va_P (dC, dI) vwCl (WV hV aV kV iV_holders iV_rules fV_pairs fV_domain fV_kind fV_a fV_b fV_c fV_rulePairs fV_lastHolder fV_now iV_doneFor iV_changed gV_fore gV_back fV_together fV_member gV_list dV_list nV_list iV_listed iV_listDone) U.heap ∧ va_K (dC, dI) vwCl (tV kV) U ∧ va_D (fun _ => True) (WV hV aV kV iV_holders iV_rules fV_pairs fV_domain fV_kind fV_a fV_b fV_c fV_rulePairs fV_lastHolder fV_now iV_doneFor iV_changed gV_fore gV_back fV_together fV_member gV_list dV_list nV_list iV_listed iV_listDone))) (va_Qv (fun (u : Nat → Int64) => True) (fun (u : Nat → Int64) t => va_P (dC, dI) vwCl (WV hV aV kV iV_holders iV_rules fV_pairs fV_domain fV_kind fV_a fV_b fV_c fV_rulePairs fV_lastHolder fV_now iV_doneFor iV_changed u gV_back fV_together fV_member gV_list dV_list nV_list iV_listed iV_listDone) t.heap ∧ va_D (va_A (WV hV aV kV iV_holders iV_rules fV_pairs fV_domain fV_kind fV_a fV_b fV_c fV_rulePairs fV_lastHolder fV_now iV_doneFor iV_changed gV_fore gV_back fV_together fV_member gV_list dV_list nV_list iV_listed iV_listDone) sz) (WV hV aV kV iV_holders iV_rules fV_pairs fV_domain fV_kind fV_a fV_b fV_c fV_rulePairs fV_lastHolder fV_now iV_doneFor iV_changed u gV_back fV_together fV_member gV_list dV_list nV_list iV_listed iV_listDone)) (va_A (WV hV aV kV iV_holders iV_rules fV_pairs fV_domain fV_kind fV_a fV_b fV_c fV_rulePairs fV_lastHolder fV_now iV_doneFor iV_changed gV_fore gV_back fV_together fV_member gV_list dV_list nV_list iV_listed iV_listDone) sz)) 0 0 (va_A (WV hV aV kV iV_holders iV_rules fV_pairs fV_domain fV_kind fV_a fV_b fV_c fV_rulePairs fV_lastHolder fV_now iV_doneFor iV_changed gV_fore gV_back fV_together fV_member gV_list dV_list nV_list iV_listed iV_listDone) sz) := by
  refine Met.ofW (cc := cX7_moveUp) (maxL := 8) (ret := none) (by decide) rfl ?_
  intro p e s m args below meth c s₁ B hml hv
  obtain ⟨rfl, hsz, hP, hK, hD0⟩ := hv
  have hx := B.exec
  have hb := B.bytes
  have hr := B.returns
  have hts := atoms_spec (ws := wsMX7_moveUp) B.pre
  have hown : s.vm.findClass RX7 = some m.cls := findClass_of_methodNamed B.named
  have hlocks := B.notSynchronized
  subst hsz
  have hD := hD0.self (sz := s.heap.size)
  generalize hAe : va_A (WV hV aV kV iV_holders iV_rules fV_pairs fV_domain fV_kind fV_a fV_b fV_c fV_rulePairs fV_lastHolder fV_now iV_doneFor iV_changed gV_fore gV_back fV_together fV_member gV_list dV_list nV_list iV_listed iV_listDone) s.heap.size = A at hD ⊢
  have hA : ∀ q : Nat, s.heap.size ≤ q → A q := fun q h => by rw [← hAe]; exact Or.inr h
  have hS : va_S A s.heap s.heap [] := va_S.rf
  have hl := lv_entry ([.ref (hV 0), .int p1, .int p2]) (n := 8) (Nat.le_of_ble_eq_true rfl)
  rw [lg_entry_eq]
  generalize (lg_sl ([.ref (hV 0), .int p1, .int p2]) ++ List.replicate (8 - (lg_sl ([.ref (hV 0), .int p1, .int p2])).length) Slot.unset).toArray = ls at hl ⊢
  have hl : lv_has ls 8 [(0, .ref (hV 0)), (1, .int p1), (2, .int p2)] := hl
  refine lv_lconst (v := 0) hx hb dX7_moveUp_0 (by decide) ?_
  refine lv_lstore_n hx hb dX7_moveUp_1 rfl hl (by decide) rfl (fun ls (hl : lv_has ls _ ([(3, .long 0), (0, .ref (hV 0)), (1, .int p1), (2, .int p2)])) => ?_)
  refine lv_iconst (v := 0) hx hb dX7_moveUp_2 (by decide) ?_
  refine lv_istore hx hb dX7_moveUp_3 hl (by decide) rfl (fun ls (hl : lv_has ls _ ([(5, .int 0), (3, .long 0), (0, .ref (hV 0)), (1, .int p1), (2, .int p2)])) => ?_)
  have hl : lv_has _ _ ([(5, .int 0), (3, .long 0), (0, .ref (hV 0)), (1, .int p1), (2, .int p2)]) := lv_sub hl [0, 1, 2, 3, 4] rfl
  refine (fun (loop : ∀ (n9 : Nat) (gV_fore_x5 : Nat → Int64) (l5_x5 : Int32) (l3_x5 : Int64) (H : Heap) (locs : List Loc) (ls : Array Slot), (0 ≤ l5_x5.toInt ∧ l5_x5.toInt ≤ 3) → (3 - l5_x5.toInt < ((n9 : Nat) : Int)) → va_P (dC, dI) vwCl (WV hV aV kV iV_holders iV_rules fV_pairs fV_domain fV_kind fV_a fV_b fV_c fV_rulePairs fV_lastHolder fV_now iV_doneFor iV_changed gV_fore_x5 gV_back fV_together fV_member gV_list dV_list nV_list iV_listed iV_listDone) H → va_D A (WV hV aV kV iV_holders iV_rules fV_pairs fV_domain fV_kind fV_a fV_b fV_c fV_rulePairs fV_lastHolder fV_now iV_doneFor iV_changed gV_fore_x5 gV_back fV_together fV_member gV_list dV_list nV_list iV_listed iV_listDone) → va_S A s.heap H locs → lv_has ls 8 [(5, .int l5_x5), (3, .long l3_x5), (0, .ref (hV 0)), (1, .int p1), (2, .int p2)] → W p l e _ s m _ below meth c H locs 0 0 _ (F0 m 5 ls [])) => loop (4) gV_fore 0 0 _ _ _ (show 0 ≤ (0 : Int32).toInt ∧ (0 : Int32).toInt ≤ 3 from by decide) ((by have e9 : (0 : Int32).toInt = 0 := (by decide : (0 : Int32).toInt = 0); omega)) hP hD hS hl) ?_
  intro n9
  induction n9 with
  | zero => intro gV_fore_x5 l5_x5 l3_x5 H locs ls b_l5_x5 hf9; exact False.elim (by omega)
  | succ n9 ihx5 =>
    intro gV_fore_x5 l5_x5 l3_x5 H locs ls b_l5_x5 hfx5 hP hD hS hl
    refine lv_iload hx hb dX7_moveUp_5 (lv_at hl 0 rfl) ?_
    refine lv_iconst (v := 3) hx hb dX7_moveUp_7 (by decide) ?_
    refine lv_icmp_ge (tgt := 68) hx hb dX7_moveUp_8 (by decide) (fun c_8 => ?_) (fun c_8 => ?_)
    · have t_8 : l5_x5.toInt ≥ 3 := toI_ge c_8 rfl (by decide : (3 : Int32).toInt = 3)
      refine W.widen (k := 0) (n := 0) (by decide +kernel) (by decide +kernel) ?_
      exact W.vret hx hb hr (fun t9_ ht hW => ⟨⟨gV_fore_x5, rfl, trivial, by rw [ht]; exact hP, hD⟩, hS.F ht⟩) hS.2.2 dX7_moveUp_68
    · have t_8 : ¬ l5_x5.toInt ≥ 3 := toI_nge c_8 rfl (by decide : (3 : Int32).toInt = 3)
      refine lv_aload_n hx hb dX7_moveUp_11 rfl (lv_at hl 2 rfl) ?_
      refine va_get (D := (dC, dI)) (ci := 7) (v := .ref (aV 9)) (C := RX7) (T := TX7) (N := 20) hx hb hts iwsMX7_moveUp_in7 hown hK hP 0 rfl rfl 13 (by decide) (hts _ hm_m_X7_moveUp_0) (fun _ h9 => h9) rfl dX7_moveUp_12 ?_
      refine lv_iload_n hx hb dX7_moveUp_15 rfl (lv_at hl 3 rfl) ?_
      refine lv_iconst (v := 3) hx hb dX7_moveUp_16 (by decide) ?_
      refine lv_imul hx hb dX7_moveUp_17 ?_
      refine lv_topi (fun y61 hy61 => ?_)
      obtain rfl : (iI (p1.toInt * 3)) = y61 := (hy61.trans (iI_mul2 (iI_of _) (by decide : (3 : Int32) = iI 3))).symm
      refine lv_iload hx hb dX7_moveUp_18 (lv_at hl 0 rfl) ?_
      refine lv_iadd hx hb dX7_moveUp_20 ?_
      refine lv_topi (fun y62 hy62 => ?_)
      obtain rfl : (iI ((p1.toInt * 3) + l5_x5.toInt)) = y62 := (hy62.trans (iI_add2 rfl (iI_of _))).symm
      refine va_lald (cA := kV 9) (n := 33) (f := gV_fore_x5) hx hb hK hP 10 9 rfl rfl (vp_iI (Int.le_trans (by decide) (Int.add_le_add (Int.mul_le_mul_of_nonneg_right (b_p1.1) (by decide)) (b_l5_x5.1))) (Int.lt_of_le_of_lt (Int.add_le_add (Int.mul_le_mul_of_nonneg_right (b_p1.2) (by decide)) (b_l5_x5.2)) (by decide)) (by decide)) dX7_moveUp_21 ?_
      refine lv_topl (fun v63 hv63 => ?_)
      clear hv63
      refine lv_lstore hx hb dX7_moveUp_22 hl (by decide) rfl (fun ls (hl : lv_has ls _ ([(6, .long v63), (5, .int l5_x5), (3, .long l3_x5), (0, .ref (hV 0)), (1, .int p1), (2, .int p2)])) => ?_)
      refine lv_aload_n hx hb dX7_moveUp_24 rfl (lv_at hl 3 rfl) ?_
      refine va_get (D := (dC, dI)) (ci := 7) (v := .ref (aV 9)) (C := RX7) (T := TX7) (N := 20) hx hb hts iwsMX7_moveUp_in7 hown hK hP 0 rfl rfl 13 (by decide) (hts _ hm_m_X7_moveUp_0) (fun _ h9 => h9) rfl dX7_moveUp_25 ?_
      refine lv_iload_n hx hb dX7_moveUp_28 rfl (lv_at hl 4 rfl) ?_
      refine lv_iconst (v := 1) hx hb dX7_moveUp_29 (by decide) ?_
      refine lv_iadd hx hb dX7_moveUp_30 ?_
      refine lv_topi (fun y64 hy64 => ?_)
      obtain rfl : (iI (p1.toInt + 1)) = y64 := (hy64.trans (iI_add2 (iI_of _) (by decide : (1 : Int32) = iI 1))).symm
      refine lv_iconst (v := 3) hx hb dX7_moveUp_31 (by decide) ?_
      refine lv_imul hx hb dX7_moveUp_32 ?_
      refine lv_topi (fun y65 hy65 => ?_)
      obtain rfl : (iI ((p1.toInt + 1) * 3)) = y65 := (hy65.trans (iI_mul2 rfl (by decide : (3 : Int32) = iI 3))).symm
      refine lv_iload hx hb dX7_moveUp_33 (lv_at hl 1 rfl) ?_
      refine lv_iadd hx hb dX7_moveUp_35 ?_
      refine lv_topi (fun y66 hy66 => ?_)
      obtain rfl : (iI (((p1.toInt + 1) * 3) + l5_x5.toInt)) = y66 := (hy66.trans (iI_add2 rfl (iI_of _))).symm
      refine lv_dup2_11 hx hb dX7_moveUp_36 rfl rfl ?_
      refine va_lald (cA := kV 9) (n := 33) (f := gV_fore_x5) hx hb hK hP 10 9 rfl rfl (vp_iI (Int.le_trans (by decide) (Int.add_le_add (Int.mul_le_mul_of_nonneg_right (Int.add_le_add (b_p1.1) (Int.le_refl _)) (by decide)) (b_l5_x5.1))) (by omega) (by decide)) dX7_moveUp_37 ?_
      refine lv_topl (fun v67 hv67 => ?_)
      clear hv67
      refine lv_lload hx hb dX7_moveUp_38 (lv_at hl 0 rfl) ?_
      refine lv_iload_n hx hb dX7_moveUp_40 rfl (lv_at hl 5 rfl) ?_
      refine lv_lshl hx hb dX7_moveUp_41 rfl ?_
      refine lv_topl (fun v68 hv68 => ?_)
      clear hv68
      refine lv_lload_n hx hb dX7_moveUp_42 rfl (lv_at hl 2 rfl) ?_
      refine lv_lor hx hb dX7_moveUp_43 ?_
      refine lv_topl (fun v69 hv69 => ?_)
      clear hv69
      refine lv_lor hx hb dX7_moveUp_44 ?_
      refine lv_topl (fun v70 hv70 => ?_)
      clear hv70
      refine va_last (cA := kV 9) (n := 33) (f := gV_fore_x5) hx hb hK hP hD hS 10 9 rfl rfl (vp_iI (Int.le_trans (by decide) (Int.add_le_add (Int.mul_le_mul_of_nonneg_right (Int.add_le_add (b_p1.1) (Int.le_refl _)) (by decide)) (b_l5_x5.1))) (by omega) (by decide)) dX7_moveUp_45 (fun H locs hP hD hS => ?_)
      obtain ⟨u71, hu71⟩ : ∃ f9, f9 = vp_updL gV_fore_x5 ((iI (((p1.toInt + 1) * 3) + l5_x5.toInt))).toNatClampNeg v70 := ⟨_, rfl⟩
      have hP : va_P (dC, dI) vwCl (WV hV aV kV iV_holders iV_rules fV_pairs fV_domain fV_kind fV_a fV_b fV_c fV_rulePairs fV_lastHolder fV_now iV_doneFor iV_changed u71 gV_back fV_together fV_member gV_list dV_list nV_list iV_listed iV_listDone) H := by rw [hu71]; exact hP
      have hD : va_D A (WV hV aV kV iV_holders iV_rules fV_pairs fV_domain fV_kind fV_a fV_b fV_c fV_rulePairs fV_lastHolder fV_now iV_doneFor iV_changed u71 gV_back fV_together fV_member gV_list dV_list nV_list iV_listed iV_listDone) := by rw [hu71]; exact hD
      clear hu71
      refine lv_iload_n hx hb dX7_moveUp_46 rfl (lv_at hl 5 rfl) ?_
      refine W.cut (pc := 61) (fun H locs ls stk => ∃ (k0_j10 : Int64),  stk = [.long k0_j10] ∧ va_P (dC, dI) vwCl (WV hV aV kV iV_holders iV_rules fV_pairs fV_domain fV_kind fV_a fV_b fV_c fV_rulePairs fV_lastHolder fV_now iV_doneFor iV_changed u71 gV_back fV_together fV_member gV_list dV_list nV_list iV_listed iV_listDone) H ∧ va_D A (WV hV aV kV iV_holders iV_rules fV_pairs fV_domain fV_kind fV_a fV_b fV_c fV_rulePairs fV_lastHolder fV_now iV_doneFor iV_changed u71 gV_back fV_together fV_member gV_list dV_list nV_list iV_listed iV_listDone) ∧ va_S A s.heap H locs ∧ lv_has ls 8 [(6, .long v63), (5, .int l5_x5), (3, .long l3_x5), (0, .ref (hV 0)), (1, .int p1), (2, .int p2)]) (fun join10 => ?_) ?_
      · refine lv_if_ne (tgt := 54) hx hb dX7_moveUp_47 (by decide) (fun c_47 => ?_) (fun c_47 => ?_)
        · have t_47 : p2.toInt ≠ 0 := toI_ne c_47 rfl (by decide : (0 : Int32).toInt = 0)
          refine lv_lload hx hb dX7_moveUp_54 (lv_at hl 0 rfl) ?_
          refine lv_bipush (v := 64) hx hb dX7_moveUp_56 (by decide) ?_
          refine lv_iload_n hx hb dX7_moveUp_58 rfl (lv_at hl 5 rfl) ?_
          refine lv_isub hx hb dX7_moveUp_59 ?_
          refine lv_topi (fun y74 hy74 => ?_)
          obtain rfl : (iI (64 - p2.toInt)) = y74 := (hy74.trans (iI_sub2 (by decide : (64 : Int32) = iI 64) (iI_of _))).symm
          refine lv_lushr hx hb dX7_moveUp_60 rfl ?_
          refine lv_topl (fun v75 hv75 => ?_)
          clear hv75
          have hl : lv_has _ _ ([(6, .long v63), (5, .int l5_x5), (3, .long l3_x5), (0, .ref (hV 0)), (1, .int p1), (2, .int p2)]) := lv_sub hl [0, 1, 2, 3, 4, 5] rfl
          exact join10 _ _ _ _ ⟨v75, rfl, hP, hD, hS, hl⟩
        · have t_47 : p2.toInt = 0 := toI_nne c_47 rfl (by decide : (0 : Int32).toInt = 0)
          refine lv_lconst (v := 0) hx hb dX7_moveUp_50 (by decide) ?_
          refine lv_goto (tgt := 61) hx hb dX7_moveUp_51 (by decide) ?_
          have hl : lv_has _ _ ([(6, .long v63), (5, .int l5_x5), (3, .long l3_x5), (0, .ref (hV 0)), (1, .int p1), (2, .int p2)]) := lv_sub hl [0, 1, 2, 3, 4, 5] rfl
          exact join10 _ _ _ _ ⟨0, rfl, hP, hD, hS, hl⟩
      · rintro H locs ls stk ⟨k0_j10, rfl, hP, hD, hS, hl⟩
        refine lv_lstore_n hx hb dX7_moveUp_61 rfl hl (by decide) rfl (fun ls (hl : lv_has ls _ ([(3, .long k0_j10), (6, .long v63), (5, .int l5_x5), (0, .ref (hV 0)), (1, .int p1), (2, .int p2)])) => ?_)
        refine lv_iinc (v := (iI (l5_x5.toInt + 1))) hx hb dX7_moveUp_62 hl (k := 2) rfl (iI_add2 (iI_of _) (by decide : (1 : Int32) = iI 1)) (by decide) rfl (fun ls (hl : lv_has ls _ ([(5, .int (iI (l5_x5.toInt + 1))), (3, .long k0_j10), (6, .long v63), (0, .ref (hV 0)), (1, .int p1), (2, .int p2)])) => ?_)
        refine lv_goto (tgt := 5) hx hb dX7_moveUp_65 (by decide) ?_
        have hl : lv_has _ _ ([(5, .int (iI (l5_x5.toInt + 1))), (3, .long k0_j10), (0, .ref (hV 0)), (1, .int p1), (2, .int p2)]) := lv_sub hl [0, 1, 3, 4, 5] rfl
        exact ihx5 u71 (iI (l5_x5.toInt + 1)) k0_j10 _ _ _ (iI_rng (Int.le_trans (by decide) (Int.add_le_add (b_l5_x5.1) (Int.le_refl _))) (by omega) (by decide) (by decide)) (by have e9 : ((iI (l5_x5.toInt + 1))).toInt = (l5_x5.toInt + 1) := (iI_t (Int.le_trans (by decide) (Int.add_le_add (b_l5_x5.1) (Int.le_refl _))) (Int.le_trans (Int.add_le_add (b_l5_x5.2) (Int.le_refl _)) (by decide))); omega) hP hD hS hl
theorem dX7_moveDown_0 : decode cX7_moveDown 0 = .ok (.lconst 0, 1) := dk_9 (by decide +kernel)
theorem dX7_moveDown_1 : decode cX7_moveDown 1 = .ok (.lstore_n 3, 1) := dk_66 (by decide +kernel)
theorem dX7_moveDown_2 : decode cX7_moveDown 2 = .ok (.iconst 0, 1) := dk_3 (by decide +kernel)
theorem dX7_moveDown_3 : decode cX7_moveDown 3 = .ok (.istore 5, 2) := dk_54 (by decide +kernel)
theorem dX7_moveDown_5 : decode cX7_moveDown 5 = .ok (.iconst 2, 1) := dk_5 (by decide +kernel)
theorem dX7_moveDown_6 : decode cX7_moveDown 6 = .ok (.istore 6, 2) := dk_54 (by decide +kernel)
theorem dX7_moveDown_8 : decode cX7_moveDown 8 = .ok (.iload 6, 2) := dk_21 (by decide +kernel)
theorem dX7_moveDown_10 : decode cX7_moveDown 10 = .ok (.ifCond .lt 95, 3) := dk_155 (by decide +kernel)
theorem dX7_moveDown_13 : decode cX7_moveDown 13 = .ok (.aload_n 0, 1) := dk_42 (by decide +kernel)
theorem dX7_moveDown_14 : decode cX7_moveDown 14 = .ok (.getfield 47, 3) := dk_180 (by decide +kernel)
theorem dX7_moveDown_17 : decode cX7_moveDown 17 = .ok (.iload_n 1, 1) := dk_27 (by decide +kernel)
theorem dX7_moveDown_18 : decode cX7_moveDown 18 = .ok (.iconst 1, 1) := dk_4 (by decide +kernel)
theorem dX7_moveDown_19 : decode cX7_moveDown 19 = .ok (.iadd, 1) := dk_96 (by decide +kernel)
theorem dX7_moveDown_20 : decode cX7_moveDown 20 = .ok (.iconst 3, 1) := dk_6 (by decide +kernel)
theorem dX7_moveDown_21 : decode cX7_moveDown 21 = .ok (.imul, 1) := dk_104 (by decide +kernel)
theorem dX7_moveDown_22 : decode cX7_moveDown 22 = .ok (.iload 6, 2) := dk_21 (by decide +kernel)
theorem dX7_moveDown_24 : decode cX7_moveDown 24 = .ok (.iadd, 1) := dk_96 (by decide +kernel)
theorem dX7_moveDown_25 : decode cX7_moveDown 25 = .ok (.laload, 1) := dk_47 (by decide +kernel)
theorem dX7_moveDown_26 : decode cX7_moveDown 26 = .ok (.lstore 7, 2) := dk_55 (by decide +kernel)
theorem dX7_moveDown_28 : decode cX7_moveDown 28 = .ok (.lload 7, 2) := dk_22 (by decide +kernel)
theorem dX7_moveDown_30 : decode cX7_moveDown 30 = .ok (.iload_n 2, 1) := dk_28 (by decide +kernel)
theorem dX7_moveDown_31 : decode cX7_moveDown 31 = .ok (.lushr, 1) := dk_125 (by decide +kernel)
theorem dX7_moveDown_32 : decode cX7_moveDown 32 = .ok (.lload_n 3, 1) := dk_33 (by decide +kernel)
theorem dX7_moveDown_33 : decode cX7_moveDown 33 = .ok (.lor, 1) := dk_129 (by decide +kernel)
theorem dX7_moveDown_34 : decode cX7_moveDown 34 = .ok (.lstore 9, 2) := dk_55 (by decide +kernel)
theorem dX7_moveDown_36 : decode cX7_moveDown 36 = .ok (.iload_n 2, 1) := dk_28 (by decide +kernel)
theorem dX7_moveDown_37 : decode cX7_moveDown 37 = .ok (.ifCond .ne 7, 3) := dk_154 (by decide +kernel)
theorem dX7_moveDown_40 : decode cX7_moveDown 40 = .ok (.lconst 0, 1) := dk_9 (by decide +kernel)
theorem dX7_moveDown_41 : decode cX7_moveDown 41 = .ok (.goto 10, 3) := dk_167 (by decide +kernel)
theorem dX7_moveDown_44 : decode cX7_moveDown 44 = .ok (.lload 7, 2) := dk_22 (by decide +kernel)
theorem dX7_moveDown_46 : decode cX7_moveDown 46 = .ok (.bipush 64, 2) := dk_16 (by decide +kernel)
theorem dX7_moveDown_48 : decode cX7_moveDown 48 = .ok (.iload_n 2, 1) := dk_28 (by decide +kernel)
theorem dX7_moveDown_49 : decode cX7_moveDown 49 = .ok (.isub, 1) := dk_100 (by decide +kernel)
theorem dX7_moveDown_50 : decode cX7_moveDown 50 = .ok (.lshl, 1) := dk_121 (by decide +kernel)
theorem dX7_moveDown_51 : decode cX7_moveDown 51 = .ok (.lstore_n 3, 1) := dk_66 (by decide +kernel)
theorem dX7_moveDown_52 : decode cX7_moveDown 52 = .ok (.aload_n 0, 1) := dk_42 (by decide +kernel)
theorem dX7_moveDown_53 : decode cX7_moveDown 53 = .ok (.getfield 47, 3) := dk_180 (by decide +kernel)
theorem dX7_moveDown_56 : decode cX7_moveDown 56 = .ok (.iload_n 1, 1) := dk_27 (by decide +kernel)
theorem dX7_moveDown_57 : decode cX7_moveDown 57 = .ok (.iconst 3, 1) := dk_6 (by decide +kernel)
theorem dX7_moveDown_58 : decode cX7_moveDown 58 = .ok (.imul, 1) := dk_104 (by decide +kernel)
theorem dX7_moveDown_59 : decode cX7_moveDown 59 = .ok (.iload 6, 2) := dk_21 (by decide +kernel)
theorem dX7_moveDown_61 : decode cX7_moveDown 61 = .ok (.iadd, 1) := dk_96 (by decide +kernel)
theorem dX7_moveDown_62 : decode cX7_moveDown 62 = .ok (.dup2, 1) := dk_92 (by decide +kernel)
theorem dX7_moveDown_63 : decode cX7_moveDown 63 = .ok (.laload, 1) := dk_47 (by decide +kernel)
theorem dX7_moveDown_64 : decode cX7_moveDown 64 = .ok (.lload 9, 2) := dk_22 (by decide +kernel)
theorem dX7_moveDown_66 : decode cX7_moveDown 66 = .ok (.lor, 1) := dk_129 (by decide +kernel)
theorem dX7_moveDown_67 : decode cX7_moveDown 67 = .ok (.lastore, 1) := dk_80 (by decide +kernel)
theorem dX7_moveDown_68 : decode cX7_moveDown 68 = .ok (.iload 5, 2) := dk_21 (by decide +kernel)
theorem dX7_moveDown_70 : decode cX7_moveDown 70 = .ok (.ifCond .ne 22, 3) := dk_154 (by decide +kernel)
theorem dX7_moveDown_73 : decode cX7_moveDown 73 = .ok (.lload 9, 2) := dk_22 (by decide +kernel)
theorem dX7_moveDown_75 : decode cX7_moveDown 75 = .ok (.aload_n 0, 1) := dk_42 (by decide +kernel)
theorem dX7_moveDown_76 : decode cX7_moveDown 76 = .ok (.getfield 43, 3) := dk_180 (by decide +kernel)
theorem dX7_moveDown_79 : decode cX7_moveDown 79 = .ok (.iload_n 1, 1) := dk_27 (by decide +kernel)
theorem dX7_moveDown_80 : decode cX7_moveDown 80 = .ok (.iconst 3, 1) := dk_6 (by decide +kernel)
theorem dX7_moveDown_81 : decode cX7_moveDown 81 = .ok (.imul, 1) := dk_104 (by decide +kernel)
theorem dX7_moveDown_82 : decode cX7_moveDown 82 = .ok (.iload 6, 2) := dk_21 (by decide +kernel)
theorem dX7_moveDown_84 : decode cX7_moveDown 84 = .ok (.iadd, 1) := dk_96 (by decide +kernel)
theorem dX7_moveDown_85 : decode cX7_moveDown 85 = .ok (.laload, 1) := dk_47 (by decide +kernel)
theorem dX7_moveDown_86 : decode cX7_moveDown 86 = .ok (.land, 1) := dk_127 (by decide +kernel)
theorem dX7_moveDown_87 : decode cX7_moveDown 87 = .ok (.lconst 0, 1) := dk_9 (by decide +kernel)
theorem dX7_moveDown_88 : decode cX7_moveDown 88 = .ok (.lcmp, 1) := dk_148 (by decide +kernel)
theorem dX7_moveDown_89 : decode cX7_moveDown 89 = .ok (.ifCond .eq 7, 3) := dk_153 (by decide +kernel)
theorem dX7_moveDown_92 : decode cX7_moveDown 92 = .ok (.iconst 1, 1) := dk_4 (by decide +kernel)
theorem dX7_moveDown_93 : decode cX7_moveDown 93 = .ok (.goto 4, 3) := dk_167 (by decide +kernel)
theorem dX7_moveDown_96 : decode cX7_moveDown 96 = .ok (.iconst 0, 1) := dk_3 (by decide +kernel)
theorem dX7_moveDown_97 : decode cX7_moveDown 97 = .ok (.istore 5, 2) := dk_54 (by decide +kernel)
theorem dX7_moveDown_99 : decode cX7_moveDown 99 = .ok (.iinc 6 (-1), 3) := dk_132 (by decide +kernel)
theorem dX7_moveDown_102 : decode cX7_moveDown 102 = .ok (.goto (-94), 3) := dk_167 (by decide +kernel)
theorem dX7_moveDown_105 : decode cX7_moveDown 105 = .ok (.iload 5, 2) := dk_21 (by decide +kernel)
theorem dX7_moveDown_107 : decode cX7_moveDown 107 = .ok (.ireturn, 1) := dk_172 (by decide +kernel)
def wsMX7_moveDown : List Cond := .code yX7_moveDown cX7_moveDown 11 (some .boolean) :: ([.fieldLink RX7 47 "OptimaWorks$ValueDesk" "back" "[J", .fieldLink RX7 43 "OptimaWorks$ValueDesk" "fore" "[J"] ++ wsX70)
theorem iwsMX7_moveDown_in7 : ∀ w ∈ wsX70, w ∈ wsMX7_moveDown := fun _ h => List.mem_cons_of_mem _ (List.mem_append_right _ h)
theorem gdwsMX7_moveDown : wsMX7_moveDown.all goodWord = true := gdC rfl (gdA (by decide +kernel : ([.fieldLink RX7 47 "OptimaWorks$ValueDesk" "back" "[J", .fieldLink RX7 43 "OptimaWorks$ValueDesk" "fore" "[J"] : List Cond).all goodWord = true) gdwsX70)
theorem hm_m_X7_moveDown_0 : (.fieldLink RX7 47 "OptimaWorks$ValueDesk" "back" "[J" : Cond) ∈ wsMX7_moveDown := by decide +kernel
set_option maxHeartbeats 4000000 in
set_option maxRecDepth 100000 in
/-- sums moved down -/
theorem m_X7_moveDown (l : Launch) (dC : Nat → ClassId) (dI : Nat → Nat → Nat) (hV : Nat → Nat) (aV : Nat → Nat) (kV : Nat → ClassId) (iV_holders : Int32) (iV_rules : Int32) (fV_pairs : Nat → Int32) (fV_domain : Nat → Int32) (fV_kind : Nat → Int32) (fV_a : Nat → Int32) (fV_b : Nat → Int32) (fV_c : Nat → Int32) (fV_rulePairs : Nat → Int32) (fV_lastHolder : Nat → Int32) (fV_now : Nat → Int32) (iV_doneFor : Int32) (iV_changed : Int32) (gV_fore : Nat → Int64) (gV_back : Nat → Int64) (fV_together : Nat → Int32) (fV_member : Nat → Int32) (gV_list : Nat → Int64) (dV_list : Nat) (nV_list : Nat) (iV_listed : Int32) (iV_listDone : Int32) (p1 : Int32) (p2 : Int32) (b_iV_holders : 0 ≤ iV_holders.toInt ∧ iV_holders.toInt ≤ 10) (b_iV_rules : 0 ≤ iV_rules.toInt ∧ iV_rules.toInt ≤ 12) (b_fV_kind : ∀ q : Nat, 0 ≤ (fV_kind q).toInt ∧ (fV_kind q).toInt ≤ 4) (b_iV_changed : 0 ≤ iV_changed.toInt ∧ iV_changed.toInt ≤ 1) (b_fV_member : ∀ q : Nat, (-1) ≤ (fV_member q).toInt ∧ (fV_member q).toInt ≤ 15) (b_nV_list : 0 ≤ nV_list ∧ nV_list ≤ 20000) (b_iV_listed : (-1) ≤ iV_listed.toInt ∧ iV_listed.toInt ≤ 5000) (b_iV_listDone : 0 ≤ iV_listDone.toInt ∧ iV_listDone.toInt ≤ 1) (b_RuV : RuV fV_kind fV_a fV_b fV_c fV_lastHolder) (b_lst : iV_listed.toInt ≤ ((nV_list : Nat) : Int)) (b_p1 : 0 ≤ p1.toInt ∧ p1.toInt ≤ 9) (sz : Nat) : Met l yX7_moveDown wsMX7_moveDown ({ frames := 0, cells := 0, slots := 0, locals := 0 }) (va_Pc [.ref (hV 0), .int p1, .int p2] (fun U => U.heap.size = sz ∧ va_P (dC, dI) vwCl (WV hV aV kV iV_holders iV_rules fV_pairs fV_domain fV_kind fV_a fV_b fV_c fV_rulePairs fV_lastHolder fV_now iV_doneFor iV_changed gV_fore gV_back fV_together fV_member gV_list dV_list nV_list iV_listed iV_listDone) U.heap ∧ va_K (dC, dI) vwCl (tV kV) U ∧ va_D (fun _ => True) (WV hV aV kV iV_holders iV_rules fV_pairs fV_domain fV_kind fV_a fV_b fV_c fV_rulePairs fV_lastHolder fV_now iV_doneFor iV_changed gV_fore gV_back fV_together fV_member gV_list dV_list nV_list iV_listed iV_listDone))) (va_Qi (fun (r : Int32) (u : Nat → Int64) => (0 ≤ r.toInt ∧ r.toInt ≤ 1)) (fun (u : Nat → Int64) t => va_P (dC, dI) vwCl (WV hV aV kV iV_holders iV_rules fV_pairs fV_domain fV_kind fV_a fV_b fV_c fV_rulePairs fV_lastHolder fV_now iV_doneFor iV_changed gV_fore u fV_together fV_member gV_list dV_list nV_list iV_listed iV_listDone) t.heap ∧ va_D (va_A (WV hV aV kV iV_holders iV_rules fV_pairs fV_domain fV_kind fV_a fV_b fV_c fV_rulePairs fV_lastHolder fV_now iV_doneFor iV_changed gV_fore gV_back fV_together fV_member gV_list dV_list nV_list iV_listed iV_listDone) sz) (WV hV aV kV iV_holders iV_rules fV_pairs fV_domain fV_kind fV_a fV_b fV_c fV_rulePairs fV_lastHolder fV_now iV_doneFor iV_changed gV_fore u fV_together fV_member gV_list dV_list nV_list iV_listed iV_listDone)) (va_A (WV hV aV kV iV_holders iV_rules fV_pairs fV_domain fV_kind fV_a fV_b fV_c fV_rulePairs fV_lastHolder fV_now iV_doneFor iV_changed gV_fore gV_back fV_together fV_member gV_list dV_list nV_list iV_listed iV_listDone) sz)) 0 0 (va_A (WV hV aV kV iV_holders iV_rules fV_pairs fV_domain fV_kind fV_a fV_b fV_c fV_rulePairs fV_lastHolder fV_now iV_doneFor iV_changed gV_fore gV_back fV_together fV_member gV_list dV_list nV_list iV_listed iV_listDone) sz) := by
  refine Met.ofW (cc := cX7_moveDown) (maxL := 11) (ret := (some .boolean)) (by decide) rfl ?_
  intro p e s m args below meth c s₁ B hml hv
  obtain ⟨rfl, hsz, hP, hK, hD0⟩ := hv
  have hx := B.exec
  have hb := B.bytes
  have hr := B.returns
  have hts := atoms_spec (ws := wsMX7_moveDown) B.pre
  have hown : s.vm.findClass RX7 = some m.cls := findClass_of_methodNamed B.named
  have hlocks := B.notSynchronized
  subst hsz
  have hD := hD0.self (sz := s.heap.size)
  generalize hAe : va_A (WV hV aV kV iV_holders iV_rules fV_pairs fV_domain fV_kind fV_a fV_b fV_c fV_rulePairs fV_lastHolder fV_now iV_doneFor iV_changed gV_fore gV_back fV_together fV_member gV_list dV_list nV_list iV_listed iV_listDone) s.heap.size = A at hD ⊢
  have hA : ∀ q : Nat, s.heap.size ≤ q → A q := fun q h => by rw [← hAe]; exact Or.inr h
  have hS : va_S A s.heap s.heap [] := va_S.rf
  have hl := lv_entry ([.ref (hV 0), .int p1, .int p2]) (n := 11) (Nat.le_of_ble_eq_true rfl)
  rw [lg_entry_eq]
  generalize (lg_sl ([.ref (hV 0), .int p1, .int p2]) ++ List.replicate (11 - (lg_sl ([.ref (hV 0), .int p1, .int p2])).length) Slot.unset).toArray = ls at hl ⊢
  have hl : lv_has ls 11 [(0, .ref (hV 0)), (1, .int p1), (2, .int p2)] := hl
  refine lv_lconst (v := 0) hx hb dX7_moveDown_0 (by decide) ?_
  refine lv_lstore_n hx hb dX7_moveDown_1 rfl hl (by decide) rfl (fun ls (hl : lv_has ls _ ([(3, .long 0), (0, .ref (hV 0)), (1, .int p1), (2, .int p2)])) => ?_)
  refine lv_iconst (v := 0) hx hb dX7_moveDown_2 (by decide) ?_
  refine lv_istore hx hb dX7_moveDown_3 hl (by decide) rfl (fun ls (hl : lv_has ls _ ([(5, .int 0), (3, .long 0), (0, .ref (hV 0)), (1, .int p1), (2, .int p2)])) => ?_)
  refine lv_iconst (v := 2) hx hb dX7_moveDown_5 (by decide) ?_
  refine lv_istore hx hb dX7_moveDown_6 hl (by decide) rfl (fun ls (hl : lv_has ls _ ([(6, .int 2), (5, .int 0), (3, .long 0), (0, .ref (hV 0)), (1, .int p1), (2, .int p2)])) => ?_)
  have hl : lv_has _ _ ([(6, .int 2), (5, .int 0), (3, .long 0), (0, .ref (hV 0)), (1, .int p1), (2, .int p2)]) := lv_sub hl [0, 1, 2, 3, 4, 5] rfl
  refine (fun (loop : ∀ (n9 : Nat) (gV_back_x8 : Nat → Int64) (l6_x8 : Int32) (l5_x8 : Int32) (l3_x8 : Int64) (H : Heap) (locs : List Loc) (ls : Array Slot), ((-1) ≤ l6_x8.toInt ∧ l6_x8.toInt ≤ 2) → (0 ≤ l5_x8.toInt ∧ l5_x8.toInt ≤ 1) → (l6_x8.toInt - (-1) < ((n9 : Nat) : Int)) → va_P (dC, dI) vwCl (WV hV aV kV iV_holders iV_rules fV_pairs fV_domain fV_kind fV_a fV_b fV_c fV_rulePairs fV_lastHolder fV_now iV_doneFor iV_changed gV_fore gV_back_x8 fV_together fV_member gV_list dV_list nV_list iV_listed iV_listDone) H → va_D A (WV hV aV kV iV_holders iV_rules fV_pairs fV_domain fV_kind fV_a fV_b fV_c fV_rulePairs fV_lastHolder fV_now iV_doneFor iV_changed gV_fore gV_back_x8 fV_together fV_member gV_list dV_list nV_list iV_listed iV_listDone) → va_S A s.heap H locs → lv_has ls 11 [(6, .int l6_x8), (5, .int l5_x8), (3, .long l3_x8), (0, .ref (hV 0)), (1, .int p1), (2, .int p2)] → W p l e _ s m _ below meth c H locs 0 0 _ (F0 m 8 ls [])) => loop (4) gV_back 2 0 0 _ _ _ (show (-1) ≤ (2 : Int32).toInt ∧ (2 : Int32).toInt ≤ 2 from by decide) (show 0 ≤ (0 : Int32).toInt ∧ (0 : Int32).toInt ≤ 1 from by decide) ((by have e9 : (2 : Int32).toInt = 2 := (by decide : (2 : Int32).toInt = 2); omega)) hP hD hS hl) ?_
  intro n9
  induction n9 with
  | zero => intro gV_back_x8 l6_x8 l5_x8 l3_x8 H locs ls b_l6_x8 b_l5_x8 hf9; exact False.elim (by omega)
  | succ n9 ihx8 =>
    intro gV_back_x8 l6_x8 l5_x8 l3_x8 H locs ls b_l6_x8 b_l5_x8 hfx8 hP hD hS hl
    refine lv_iload hx hb dX7_moveDown_8 (lv_at hl 0 rfl) ?_
    refine lv_if_lt (tgt := 105) hx hb dX7_moveDown_10 (by decide) (fun c_10 => ?_) (fun c_10 => ?_)
    · have t_10 : l6_x8.toInt < 0 := toI_lt c_10 rfl (by decide : (0 : Int32).toInt = 0)
      refine lv_iload hx hb dX7_moveDown_105 (lv_at hl 1 rfl) ?_
      refine W.widen (k := 0) (n := 0) (by decide +kernel) (by decide +kernel) ?_
      exact W.zret (v := l5_x8) hx hb hr (by rcases z01 (x := l5_x8) (b_l5_x8) with h9 | h9 <;> rw [h9] <;> rfl) (fun t9_ ht hW => ⟨⟨l5_x8, gV_back_x8, rfl, (b_l5_x8), by rw [ht]; exact hP, hD⟩, hS.F ht⟩) hS.2.2 dX7_moveDown_107
    · have t_10 : ¬ l6_x8.toInt < 0 := toI_nlt c_10 rfl (by decide : (0 : Int32).toInt = 0)
      refine lv_aload_n hx hb dX7_moveDown_13 rfl (lv_at hl 3 rfl) ?_
      refine va_get (D := (dC, dI)) (ci := 7) (v := .ref (aV 10)) (C := RX7) (T := TX7) (N := 20) hx hb hts iwsMX7_moveDown_in7 hown hK hP 0 rfl rfl 14 (by decide) (hts _ hm_m_X7_moveDown_0) (fun _ h9 => h9) rfl dX7_moveDown_14 ?_
      refine lv_iload_n hx hb dX7_moveDown_17 rfl (lv_at hl 4 rfl) ?_
      refine lv_iconst (v := 1) hx hb dX7_moveDown_18 (by decide) ?_
      refine lv_iadd hx hb dX7_moveDown_19 ?_
      refine lv_topi (fun y89 hy89 => ?_)
      obtain rfl : (iI (p1.toInt + 1)) = y89 := (hy89.trans (iI_add2 (iI_of _) (by decide : (1 : Int32) = iI 1))).symm
      refine lv_iconst (v := 3) hx hb dX7_moveDown_20 (by decide) ?_
      refine lv_imul hx hb dX7_moveDown_21 ?_
      refine lv_topi (fun y90 hy90 => ?_)
      obtain rfl : (iI ((p1.toInt + 1) * 3)) = y90 := (hy90.trans (iI_mul2 rfl (by decide : (3 : Int32) = iI 3))).symm
      refine lv_iload hx hb dX7_moveDown_22 (lv_at hl 0 rfl) ?_
      refine lv_iadd hx hb dX7_moveDown_24 ?_
      refine lv_topi (fun y91 hy91 => ?_)
      obtain rfl : (iI (((p1.toInt + 1) * 3) + l6_x8.toInt)) = y91 := (hy91.trans (iI_add2 rfl (iI_of _))).symm
      refine va_lald (cA := kV 10) (n := 33) (f := gV_back_x8) hx hb hK hP 11 10 rfl rfl (vp_iI (Int.le_trans (by decide) (Int.add_le_add (Int.mul_le_mul_of_nonneg_right (Int.add_le_add (b_p1.1) (Int.le_refl _)) (by decide)) (b_l6_x8.1))) (Int.lt_of_le_of_lt (Int.add_le_add (Int.mul_le_mul_of_nonneg_right (Int.add_le_add (b_p1.2) (Int.le_refl _)) (by decide)) (b_l6_x8.2)) (by decide)) (by decide)) dX7_moveDown_25 ?_
      refine lv_topl (fun v92 hv92 => ?_)
      clear hv92
      refine lv_lstore hx hb dX7_moveDown_26 hl (by decide) rfl (fun ls (hl : lv_has ls _ ([(7, .long v92), (6, .int l6_x8), (5, .int l5_x8), (3, .long l3_x8), (0, .ref (hV 0)), (1, .int p1), (2, .int p2)])) => ?_)
      refine lv_lload hx hb dX7_moveDown_28 (lv_at hl 0 rfl) ?_
      refine lv_iload_n hx hb dX7_moveDown_30 rfl (lv_at hl 6 rfl) ?_
      refine lv_lushr hx hb dX7_moveDown_31 rfl ?_
      refine lv_topl (fun v93 hv93 => ?_)
      clear hv93
      refine lv_lload_n hx hb dX7_moveDown_32 rfl (lv_at hl 3 rfl) ?_
      refine lv_lor hx hb dX7_moveDown_33 ?_
      refine lv_topl (fun v94 hv94 => ?_)
      clear hv94
      refine lv_lstore hx hb dX7_moveDown_34 hl (by decide) rfl (fun ls (hl : lv_has ls _ ([(9, .long v94), (7, .long v92), (6, .int l6_x8), (5, .int l5_x8), (3, .long l3_x8), (0, .ref (hV 0)), (1, .int p1), (2, .int p2)])) => ?_)
      refine lv_iload_n hx hb dX7_moveDown_36 rfl (lv_at hl 7 rfl) ?_
      refine W.cut (pc := 51) (fun H locs ls stk => ∃ (k0_j19 : Int64),  stk = [.long k0_j19] ∧ va_P (dC, dI) vwCl (WV hV aV kV iV_holders iV_rules fV_pairs fV_domain fV_kind fV_a fV_b fV_c fV_rulePairs fV_lastHolder fV_now iV_doneFor iV_changed gV_fore gV_back_x8 fV_together fV_member gV_list dV_list nV_list iV_listed iV_listDone) H ∧ va_D A (WV hV aV kV iV_holders iV_rules fV_pairs fV_domain fV_kind fV_a fV_b fV_c fV_rulePairs fV_lastHolder fV_now iV_doneFor iV_changed gV_fore gV_back_x8 fV_together fV_member gV_list dV_list nV_list iV_listed iV_listDone) ∧ va_S A s.heap H locs ∧ lv_has ls 11 [(9, .long v94), (7, .long v92), (6, .int l6_x8), (5, .int l5_x8), (3, .long l3_x8), (0, .ref (hV 0)), (1, .int p1), (2, .int p2)]) (fun join19 => ?_) ?_
      · refine lv_if_ne (tgt := 44) hx hb dX7_moveDown_37 (by decide) (fun c_37 => ?_) (fun c_37 => ?_)
        · have t_37 : p2.toInt ≠ 0 := toI_ne c_37 rfl (by decide : (0 : Int32).toInt = 0)
          refine lv_lload hx hb dX7_moveDown_44 (lv_at hl 1 rfl) ?_
          refine lv_bipush (v := 64) hx hb dX7_moveDown_46 (by decide) ?_
          refine lv_iload_n hx hb dX7_moveDown_48 rfl (lv_at hl 7 rfl) ?_
          refine lv_isub hx hb dX7_moveDown_49 ?_
          refine lv_topi (fun y97 hy97 => ?_)
          obtain rfl : (iI (64 - p2.toInt)) = y97 := (hy97.trans (iI_sub2 (by decide : (64 : Int32) = iI 64) (iI_of _))).symm
          refine lv_lshl hx hb dX7_moveDown_50 rfl ?_
          refine lv_topl (fun v98 hv98 => ?_)
          clear hv98
          have hl : lv_has _ _ ([(9, .long v94), (7, .long v92), (6, .int l6_x8), (5, .int l5_x8), (3, .long l3_x8), (0, .ref (hV 0)), (1, .int p1), (2, .int p2)]) := lv_sub hl [0, 1, 2, 3, 4, 5, 6, 7] rfl
          exact join19 _ _ _ _ ⟨v98, rfl, hP, hD, hS, hl⟩
        · have t_37 : p2.toInt = 0 := toI_nne c_37 rfl (by decide : (0 : Int32).toInt = 0)
          refine lv_lconst (v := 0) hx hb dX7_moveDown_40 (by decide) ?_
          refine lv_goto (tgt := 51) hx hb dX7_moveDown_41 (by decide) ?_
          have hl : lv_has _ _ ([(9, .long v94), (7, .long v92), (6, .int l6_x8), (5, .int l5_x8), (3, .long l3_x8), (0, .ref (hV 0)), (1, .int p1), (2, .int p2)]) := lv_sub hl [0, 1, 2, 3, 4, 5, 6, 7] rfl
          exact join19 _ _ _ _ ⟨0, rfl, hP, hD, hS, hl⟩
      · rintro H locs ls stk ⟨k0_j19, rfl, hP, hD, hS, hl⟩
        refine lv_lstore_n hx hb dX7_moveDown_51 rfl hl (by decide) rfl (fun ls (hl : lv_has ls _ ([(3, .long k0_j19), (9, .long v94), (7, .long v92), (6, .int l6_x8), (5, .int l5_x8), (0, .ref (hV 0)), (1, .int p1), (2, .int p2)])) => ?_)
        refine lv_aload_n hx hb dX7_moveDown_52 rfl (lv_at hl 5 rfl) ?_
        refine va_get (D := (dC, dI)) (ci := 7) (v := .ref (aV 10)) (C := RX7) (T := TX7) (N := 20) hx hb hts iwsMX7_moveDown_in7 hown hK hP 0 rfl rfl 14 (by decide) (hts _ hm_m_X7_moveDown_0) (fun _ h9 => h9) rfl dX7_moveDown_53 ?_
        refine lv_iload_n hx hb dX7_moveDown_56 rfl (lv_at hl 6 rfl) ?_
        refine lv_iconst (v := 3) hx hb dX7_moveDown_57 (by decide) ?_
        refine lv_imul hx hb dX7_moveDown_58 ?_
        refine lv_topi (fun y99 hy99 => ?_)
        obtain rfl : (iI (p1.toInt * 3)) = y99 := (hy99.trans (iI_mul2 (iI_of _) (by decide : (3 : Int32) = iI 3))).symm
        refine lv_iload hx hb dX7_moveDown_59 (lv_at hl 3 rfl) ?_
        refine lv_iadd hx hb dX7_moveDown_61 ?_
        refine lv_topi (fun y100 hy100 => ?_)
        obtain rfl : (iI ((p1.toInt * 3) + l6_x8.toInt)) = y100 := (hy100.trans (iI_add2 rfl (iI_of _))).symm
        refine lv_dup2_11 hx hb dX7_moveDown_62 rfl rfl ?_
        refine va_lald (cA := kV 10) (n := 33) (f := gV_back_x8) hx hb hK hP 11 10 rfl rfl (vp_iI (by omega) (Int.lt_of_le_of_lt (Int.add_le_add (Int.mul_le_mul_of_nonneg_right (b_p1.2) (by decide)) (b_l6_x8.2)) (by decide)) (by decide)) dX7_moveDown_63 ?_
        refine lv_topl (fun v101 hv101 => ?_)
        clear hv101
        refine lv_lload hx hb dX7_moveDown_64 (lv_at hl 1 rfl) ?_
        refine lv_lor hx hb dX7_moveDown_66 ?_
        refine lv_topl (fun v102 hv102 => ?_)
        clear hv102
        refine va_last (cA := kV 10) (n := 33) (f := gV_back_x8) hx hb hK hP hD hS 11 10 rfl rfl (vp_iI (by omega) (Int.lt_of_le_of_lt (Int.add_le_add (Int.mul_le_mul_of_nonneg_right (b_p1.2) (by decide)) (b_l6_x8.2)) (by decide)) (by decide)) dX7_moveDown_67 (fun H locs hP hD hS => ?_)
        obtain ⟨u103, hu103⟩ : ∃ f9, f9 = vp_updL gV_back_x8 ((iI ((p1.toInt * 3) + l6_x8.toInt))).toNatClampNeg v102 := ⟨_, rfl⟩
        have hP : va_P (dC, dI) vwCl (WV hV aV kV iV_holders iV_rules fV_pairs fV_domain fV_kind fV_a fV_b fV_c fV_rulePairs fV_lastHolder fV_now iV_doneFor iV_changed gV_fore u103 fV_together fV_member gV_list dV_list nV_list iV_listed iV_listDone) H := by rw [hu103]; exact hP
        have hD : va_D A (WV hV aV kV iV_holders iV_rules fV_pairs fV_domain fV_kind fV_a fV_b fV_c fV_rulePairs fV_lastHolder fV_now iV_doneFor iV_changed gV_fore u103 fV_together fV_member gV_list dV_list nV_list iV_listed iV_listDone) := by rw [hu103]; exact hD
        clear hu103
        refine lv_iload hx hb dX7_moveDown_68 (lv_at hl 4 rfl) ?_
        refine W.cut (pc := 97) (fun H locs ls stk => ∃ (k0_j20 : Int32), (0 ≤ k0_j20.toInt ∧ k0_j20.toInt ≤ 1) ∧  stk = [.int k0_j20] ∧ va_P (dC, dI) vwCl (WV hV aV kV iV_holders iV_rules fV_pairs fV_domain fV_kind fV_a fV_b fV_c fV_rulePairs fV_lastHolder fV_now iV_doneFor iV_changed gV_fore u103 fV_together fV_member gV_list dV_list nV_list iV_listed iV_listDone) H ∧ va_D A (WV hV aV kV iV_holders iV_rules fV_pairs fV_domain fV_kind fV_a fV_b fV_c fV_rulePairs fV_lastHolder fV_now iV_doneFor iV_changed gV_fore u103 fV_together fV_member gV_list dV_list nV_list iV_listed iV_listDone) ∧ va_S A s.heap H locs ∧ lv_has ls 11 [(3, .long k0_j19), (9, .long v94), (7, .long v92), (6, .int l6_x8), (5, .int l5_x8), (0, .ref (hV 0)), (1, .int p1), (2, .int p2)]) (fun join20 => ?_) ?_
        · refine lv_if_ne (tgt := 92) hx hb dX7_moveDown_70 (by decide) (fun c_70 => ?_) (fun c_70 => ?_)
          · have t_70 : l5_x8.toInt ≠ 0 := toI_ne c_70 rfl (by decide : (0 : Int32).toInt = 0)
            refine lv_iconst (v := 1) hx hb dX7_moveDown_92 (by decide) ?_
            refine lv_goto (tgt := 97) hx hb dX7_moveDown_93 (by decide) ?_
            have hl : lv_has _ _ ([(3, .long k0_j19), (9, .long v94), (7, .long v92), (6, .int l6_x8), (5, .int l5_x8), (0, .ref (hV 0)), (1, .int p1), (2, .int p2)]) := lv_sub hl [0, 1, 2, 3, 4, 5, 6, 7] rfl
            exact join20 _ _ _ _ ⟨1, (show 0 ≤ (1 : Int32).toInt ∧ (1 : Int32).toInt ≤ 1 from by decide), rfl, hP, hD, hS, hl⟩
          · have t_70 : l5_x8.toInt = 0 := toI_nne c_70 rfl (by decide : (0 : Int32).toInt = 0)
            refine lv_lload hx hb dX7_moveDown_73 (lv_at hl 1 rfl) ?_
            refine lv_aload_n hx hb dX7_moveDown_75 rfl (lv_at hl 5 rfl) ?_
            refine va_get (D := (dC, dI)) (ci := 7) (v := .ref (aV 9)) (C := RX7) (T := TX7) (N := 20) hx hb hts iwsMX7_moveDown_in7 hown hK hP 0 rfl rfl 13 (by decide) (hts (.fieldLink RX7 43 "OptimaWorks$ValueDesk" "fore" "[J") (by decide +kernel)) (fun _ h9 => h9) rfl dX7_moveDown_76 ?_
            refine lv_iload_n hx hb dX7_moveDown_79 rfl (lv_at hl 6 rfl) ?_
            refine lv_iconst (v := 3) hx hb dX7_moveDown_80 (by decide) ?_
            refine lv_imul hx hb dX7_moveDown_81 ?_
            refine lv_topi (fun y108 hy108 => ?_)
            obtain rfl : (iI (p1.toInt * 3)) = y108 := (hy108.trans (iI_mul2 (iI_of _) (by decide : (3 : Int32) = iI 3))).symm
            refine lv_iload hx hb dX7_moveDown_82 (lv_at hl 3 rfl) ?_
            refine lv_iadd hx hb dX7_moveDown_84 ?_
            refine lv_topi (fun y109 hy109 => ?_)
            obtain rfl : (iI ((p1.toInt * 3) + l6_x8.toInt)) = y109 := (hy109.trans (iI_add2 rfl (iI_of _))).symm
            refine va_lald (cA := kV 9) (n := 33) (f := gV_fore) hx hb hK hP 10 9 rfl rfl (vp_iI (by omega) (Int.lt_of_le_of_lt (Int.add_le_add (Int.mul_le_mul_of_nonneg_right (b_p1.2) (by decide)) (b_l6_x8.2)) (by decide)) (by decide)) dX7_moveDown_85 ?_
            refine lv_topl (fun v110 hv110 => ?_)
            clear hv110
            refine lv_land hx hb dX7_moveDown_86 ?_
            refine lv_topl (fun v111 hv111 => ?_)
            clear hv111
            refine lv_lconst (v := 0) hx hb dX7_moveDown_87 (by decide) ?_
            refine W.lcmp hx hb dX7_moveDown_88 ?_
            refine lv_if_eq (tgt := 96) hx hb dX7_moveDown_89 (by decide) (fun c_89 => ?_) (fun c_89 => ?_)
            · have t_89 : v111.toInt = 0 := toL_eq c_89 rfl (by decide : (0 : Int64).toInt = 0)
              refine lv_iconst (v := 0) hx hb dX7_moveDown_96 (by decide) ?_
              have hl : lv_has _ _ ([(3, .long k0_j19), (9, .long v94), (7, .long v92), (6, .int l6_x8), (5, .int l5_x8), (0, .ref (hV 0)), (1, .int p1), (2, .int p2)]) := lv_sub hl [0, 1, 2, 3, 4, 5, 6, 7] rfl
              exact join20 _ _ _ _ ⟨0, (show 0 ≤ (0 : Int32).toInt ∧ (0 : Int32).toInt ≤ 1 from by decide), rfl, hP, hD, hS, hl⟩
            · have t_89 : ¬ v111.toInt = 0 := toL_neq c_89 rfl (by decide : (0 : Int64).toInt = 0)
              refine lv_iconst (v := 1) hx hb dX7_moveDown_92 (by decide) ?_
              refine lv_goto (tgt := 97) hx hb dX7_moveDown_93 (by decide) ?_
              have hl : lv_has _ _ ([(3, .long k0_j19), (9, .long v94), (7, .long v92), (6, .int l6_x8), (5, .int l5_x8), (0, .ref (hV 0)), (1, .int p1), (2, .int p2)]) := lv_sub hl [0, 1, 2, 3, 4, 5, 6, 7] rfl
              exact join20 _ _ _ _ ⟨1, (show 0 ≤ (1 : Int32).toInt ∧ (1 : Int32).toInt ≤ 1 from by decide), rfl, hP, hD, hS, hl⟩
        · rintro H locs ls stk ⟨k0_j20, b_k0_j20, rfl, hP, hD, hS, hl⟩
          refine lv_istore hx hb dX7_moveDown_97 hl (by decide) rfl (fun ls (hl : lv_has ls _ ([(5, .int k0_j20), (3, .long k0_j19), (9, .long v94), (7, .long v92), (6, .int l6_x8), (0, .ref (hV 0)), (1, .int p1), (2, .int p2)])) => ?_)
          refine lv_iinc (v := (iI (l6_x8.toInt + (-1)))) hx hb dX7_moveDown_99 hl (k := 4) rfl (iI_add2 (iI_of _) (by decide : ((-1) : Int32) = iI (-1))) (by decide) rfl (fun ls (hl : lv_has ls _ ([(6, .int (iI (l6_x8.toInt + (-1)))), (5, .int k0_j20), (3, .long k0_j19), (9, .long v94), (7, .long v92), (0, .ref (hV 0)), (1, .int p1), (2, .int p2)])) => ?_)
          refine lv_goto (tgt := 8) hx hb dX7_moveDown_102 (by decide) ?_
          have hl : lv_has _ _ ([(6, .int (iI (l6_x8.toInt + (-1)))), (5, .int k0_j20), (3, .long k0_j19), (0, .ref (hV 0)), (1, .int p1), (2, .int p2)]) := lv_sub hl [0, 1, 2, 5, 6, 7] rfl
          exact ihx8 u103 (iI (l6_x8.toInt + (-1))) k0_j20 k0_j19 _ _ _ (iI_rng (by omega) (Int.le_trans (Int.add_le_add (b_l6_x8.2) (Int.le_refl _)) (by decide)) (by decide) (by decide)) (b_k0_j20) (by have e9 : ((iI (l6_x8.toInt + (-1)))).toInt = (l6_x8.toInt + (-1)) := (iI_t (Int.le_trans (by decide) (Int.add_le_add (b_l6_x8.1) (Int.le_refl _))) (Int.le_trans (Int.add_le_add (b_l6_x8.2) (Int.le_refl _)) (by decide))); omega) hP hD hS hl

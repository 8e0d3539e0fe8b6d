theorem hd_yX12_keepsRule_RX12 : yX12_keepsRule.cls = RX12 ∧ yX12_keepsRule.cls ≠ "java/lang/invoke/MethodHandle" ∧ yX12_keepsRule.cls ≠ "java/lang/invoke/VarHandle" ∧ (parseMethodDescriptor yX12_keepsRule.desc).map (fun d => d.parameters.length) = some 1 := by decide +kernel
theorem hd_yX12_above_RX12 : yX12_above.cls = RX12 ∧ yX12_above.cls ≠ "java/lang/invoke/MethodHandle" ∧ yX12_above.cls ≠ "java/lang/invoke/VarHandle" ∧ (parseMethodDescriptor yX12_above.desc).map (fun d => d.parameters.length) = some 1 := by decide +kernel
theorem hd_yX12_list_RX12 : yX12_list.cls = RX12 ∧ yX12_list.cls ≠ "java/lang/invoke/MethodHandle" ∧ yX12_list.cls ≠ "java/lang/invoke/VarHandle" ∧ (parseMethodDescriptor yX12_list.desc).map (fun d => d.parameters.length) = some 0 := by decide +kernel
theorem hd_yX12_listing_RX12 : yX12_listing.cls = RX12 ∧ yX12_listing.cls ≠ "java/lang/invoke/MethodHandle" ∧ yX12_listing.cls ≠ "java/lang/invoke/VarHandle" ∧ (parseMethodDescriptor yX12_listing.desc).map (fun d => d.parameters.length) = some 0 := by decide +kernel
theorem dX12_ones_0 : decode cX12_ones 0 = .ok (.iconst 0, 1) := dk_3 (by decide +kernel)
theorem dX12_ones_1 : decode cX12_ones 1 = .ok (.istore_n 1, 1) := dk_60 (by decide +kernel)
theorem dX12_ones_2 : decode cX12_ones 2 = .ok (.iload_n 0, 1) := dk_26 (by decide +kernel)
theorem dX12_ones_3 : decode cX12_ones 3 = .ok (.istore_n 2, 1) := dk_61 (by decide +kernel)
theorem dX12_ones_4 : decode cX12_ones 4 = .ok (.iload_n 2, 1) := dk_28 (by decide +kernel)
theorem dX12_ones_5 : decode cX12_ones 5 = .ok (.ifCond .le 15, 3) := dk_158 (by decide +kernel)
theorem dX12_ones_8 : decode cX12_ones 8 = .ok (.iinc 1 1, 3) := dk_132 (by decide +kernel)
theorem dX12_ones_11 : decode cX12_ones 11 = .ok (.iload_n 2, 1) := dk_28 (by decide +kernel)
theorem dX12_ones_12 : decode cX12_ones 12 = .ok (.iload_n 2, 1) := dk_28 (by decide +kernel)
theorem dX12_ones_13 : decode cX12_ones 13 = .ok (.iconst 1, 1) := dk_4 (by decide +kernel)
theorem dX12_ones_14 : decode cX12_ones 14 = .ok (.isub, 1) := dk_100 (by decide +kernel)
theorem dX12_ones_15 : decode cX12_ones 15 = .ok (.iand, 1) := dk_126 (by decide +kernel)
theorem dX12_ones_16 : decode cX12_ones 16 = .ok (.istore_n 2, 1) := dk_61 (by decide +kernel)
theorem dX12_ones_17 : decode cX12_ones 17 = .ok (.goto (-13), 3) := dk_167 (by decide +kernel)
theorem dX12_ones_20 : decode cX12_ones 20 = .ok (.iload_n 1, 1) := dk_27 (by decide +kernel)
theorem dX12_ones_21 : decode cX12_ones 21 = .ok (.ireturn, 1) := dk_172 (by decide +kernel)
def wsRonesa : List Cond := .code yX12_ones cX12_ones 3 (some .int) :: ([])
theorem gdwsRonesa : wsRonesa.all goodWord = true := gdC rfl (by decide +kernel : ([] : List Cond).all goodWord = true)
set_option maxHeartbeats 4000000 in
set_option maxRecDepth 100000 in
/-- ones(bits) -/
theorem r_X12_onesa (l : Launch) (dC : Nat → ClassId) (dI : Nat → Nat → Nat) (nn : Nat) (hn9 : nn < 4096) (sz : Nat) : Met l yX12_ones wsRonesa ({ frames := 0, cells := 0, slots := 0, locals := 0 }) (va_Pc [.int (nI nn)] (fun U => U.heap.size = sz ∧ va_P (dC, dI) vwCl [] U.heap ∧ va_K (dC, dI) vwCl [] U ∧ va_D (fun _ => True) [])) (va_Qi (fun (r : Int32) (u : Unit) => r = (nI (cnt nn 12))) (fun (u : Unit) t => True) (va_A [] sz)) 0 0 (va_A [] sz) := by
  refine Met.ofW (cc := cX12_ones) (maxL := 3) (ret := (some .int)) (by decide) rfl ?_
  intro p e s m args below meth c s₁ B hml hv
  obtain ⟨rfl, hsz, hP, hK, hD0⟩ := hv
  have hx := B.exec
  have hb := B.bytes
  have hr := B.returns
  have hts := atoms_spec (ws := wsRonesa) B.pre
  have hown : s.vm.findClass RX12 = some m.cls := findClass_of_methodNamed B.named
  have hlocks := B.notSynchronized
  subst hsz
  have hD := hD0.self (sz := s.heap.size)
  generalize hAe : va_A [] s.heap.size = A at hD ⊢
  have hA : ∀ q : Nat, s.heap.size ≤ q → A q := fun q h => by rw [← hAe]; exact Or.inr h
  have hS : va_S A s.heap s.heap [] := va_S.rf
  have hl := lv_entry ([.int (nI nn)]) (n := 3) (Nat.le_of_ble_eq_true rfl)
  rw [lg_entry_eq]
  generalize (lg_sl ([.int (nI nn)]) ++ List.replicate (3 - (lg_sl ([.int (nI nn)])).length) Slot.unset).toArray = ls at hl ⊢
  have hl : lv_has ls 3 [(0, .int (nI nn))] := hl
  refine lv_iconst (v := 0) hx hb dX12_ones_0 (by decide) ?_
  refine lv_istore_n hx hb dX12_ones_1 rfl hl (by decide) rfl (fun ls (hl : lv_has ls _ ([(1, .int 0), (0, .int (nI nn))])) => ?_)
  refine lv_iload_n hx hb dX12_ones_2 rfl (lv_at hl 1 rfl) ?_
  refine lv_istore_n hx hb dX12_ones_3 rfl hl (by decide) rfl (fun ls (hl : lv_has ls _ ([(2, .int (nI nn)), (1, .int 0), (0, .int (nI nn))])) => ?_)
  have hl : lv_has _ _ ([(2, .int (nI nn)), (1, .int (nI 0)), (0, .int (nI nn))]) := lv_sub hl [0, 1, 2] rfl
  refine (fun (loop : ∀ (n9 : Nat) (bb : Nat) (cc9 : Nat) (H : Heap) (locs : List Loc) (ls : Array Slot), (bb < 4096) → (cc9 + cnt bb 12 = cnt nn 12) →  (bb < n9) → va_P (dC, dI) vwCl ([]) H → va_D A ([]) → va_S A s.heap H locs → lv_has ls 3 [(2, .int (nI bb)), (1, .int (nI cc9)), (0, .int (nI nn))] → W p l e _ s m _ below meth c H locs 0 0 _ (F0 m 4 ls [])) => loop (4096) nn 0 _ _ _ (by omega) (by omega) (by omega) hP hD hS hl) ?_
  intro n9
  induction n9 with
  | zero => intro bb cc9 H locs ls hbb hcc hf9; exact False.elim (by omega)
  | succ n9 ih4 =>
    intro bb cc9 H locs ls hbb hcc hf4 hP hD hS hl
    refine lv_iload_n hx hb dX12_ones_4 rfl (lv_at hl 0 rfl) ?_
    refine lv_if_le (tgt := 20) hx hb dX12_ones_5 (by decide) (fun c_5 => ?_) (fun c_5 => ?_)
    · have t_5 : ((bb : Nat) : Int) ≤ 0 := toI_le c_5 (nI_toInt (by omega)) (by decide)
      refine lv_iload_n hx hb dX12_ones_20 rfl (lv_at hl 1 rfl) ?_
      refine W.widen (k := 0) (n := 0) (by decide +kernel) (by decide +kernel) ?_
      exact W.iret (v := (nI cc9)) hx hb hr (fun t9_ ht hW => ⟨⟨(nI cc9), (), rfl, by (try dsimp only); have e9 : bb = 0 := (by omega); subst e9; have e8 := cnt_0 12; rw [show cc9 = cnt nn 12 by omega], trivial⟩, hS.F ht⟩) hS.2.2 dX12_ones_21
    · have t_5 : ¬ ((bb : Nat) : Int) ≤ 0 := toI_nle c_5 (nI_toInt (by omega)) (by decide)
      refine lv_iinc (v := (nI (cc9 + 1))) hx hb dX12_ones_8 hl (k := 1) rfl (nI_add cc9 1) (by decide) rfl (fun ls (hl : lv_has ls _ ([(1, .int (nI (cc9 + 1))), (2, .int (nI bb)), (0, .int (nI nn))])) => ?_)
      refine lv_iload_n hx hb dX12_ones_11 rfl (lv_at hl 1 rfl) ?_
      refine lv_iload_n hx hb dX12_ones_12 rfl (lv_at hl 1 rfl) ?_
      refine lv_iconst (v := 1) hx hb dX12_ones_13 (by decide) ?_
      refine lv_isub hx hb dX12_ones_14 ?_
      refine lv_topi (fun y1 hy1 => ?_)
      obtain rfl : (nI (bb - 1)) = y1 := (hy1.trans (pk_sub (a := bb) (b := 1) (by omega))).symm
      refine lv_iand hx hb dX12_ones_15 ?_
      refine lv_topi (fun y2 hy2 => ?_)
      obtain rfl : (nI (bb &&& (bb - 1))) = y2 := (hy2.trans (and_nI _ _)).symm
      refine lv_istore_n hx hb dX12_ones_16 rfl hl (by decide) rfl (fun ls (hl : lv_has ls _ ([(2, .int (nI (bb &&& (bb - 1)))), (1, .int (nI (cc9 + 1))), (0, .int (nI nn))])) => ?_)
      have h1 := low_lt bb (by omega)
      have h2 := low_cnt bb (by omega) (by omega)
      refine lv_goto (tgt := 4) hx hb dX12_ones_17 (by decide) ?_
      have hl : lv_has _ _ ([(2, .int (nI (bb &&& (bb - 1)))), (1, .int (nI (cc9 + 1))), (0, .int (nI nn))]) := lv_sub hl [0, 1, 2] rfl
      exact ih4 (bb &&& (bb - 1)) (cc9 + 1) _ _ _ (by omega) (by omega) (by omega) hP hD hS hl
def wsRonesb : List Cond := .code yX12_ones cX12_ones 3 (some .int) :: ([])
theorem gdwsRonesb : wsRonesb.all goodWord = true := gdC rfl (by decide +kernel : ([] : List Cond).all goodWord = true)
set_option maxHeartbeats 4000000 in
set_option maxRecDepth 100000 in
/-- ones(bits), any count -/
theorem r_X12_onesb (l : Launch) (dC : Nat → ClassId) (dI : Nat → Nat → Nat) (nn : Nat) (hn9 : nn < 65536) (sz : Nat) : Met l yX12_ones wsRonesb ({ frames := 0, cells := 0, slots := 0, locals := 0 }) (va_Pc [.int (nI nn)] (fun U => U.heap.size = sz ∧ va_P (dC, dI) vwCl [] U.heap ∧ va_K (dC, dI) vwCl [] U ∧ va_D (fun _ => True) [])) (va_Qi (fun (r : Int32) (u : Unit) => True) (fun (u : Unit) t => True) (va_A [] sz)) 0 0 (va_A [] sz) := by
  refine Met.ofW (cc := cX12_ones) (maxL := 3) (ret := (some .int)) (by decide) rfl ?_
  intro p e s m args below meth c s₁ B hml hv
  obtain ⟨rfl, hsz, hP, hK, hD0⟩ := hv
  have hx := B.exec
  have hb := B.bytes
  have hr := B.returns
  have hts := atoms_spec (ws := wsRonesb) B.pre
  have hown : s.vm.findClass RX12 = some m.cls := findClass_of_methodNamed B.named
  have hlocks := B.notSynchronized
  subst hsz
  have hD := hD0.self (sz := s.heap.size)
  generalize hAe : va_A [] s.heap.size = A at hD ⊢
  have hA : ∀ q : Nat, s.heap.size ≤ q → A q := fun q h => by rw [← hAe]; exact Or.inr h
  have hS : va_S A s.heap s.heap [] := va_S.rf
  have hl := lv_entry ([.int (nI nn)]) (n := 3) (Nat.le_of_ble_eq_true rfl)
  rw [lg_entry_eq]
  generalize (lg_sl ([.int (nI nn)]) ++ List.replicate (3 - (lg_sl ([.int (nI nn)])).length) Slot.unset).toArray = ls at hl ⊢
  have hl : lv_has ls 3 [(0, .int (nI nn))] := hl
  refine lv_iconst (v := 0) hx hb dX12_ones_0 (by decide) ?_
  refine lv_istore_n hx hb dX12_ones_1 rfl hl (by decide) rfl (fun ls (hl : lv_has ls _ ([(1, .int 0), (0, .int (nI nn))])) => ?_)
  refine lv_iload_n hx hb dX12_ones_2 rfl (lv_at hl 1 rfl) ?_
  refine lv_istore_n hx hb dX12_ones_3 rfl hl (by decide) rfl (fun ls (hl : lv_has ls _ ([(2, .int (nI nn)), (1, .int 0), (0, .int (nI nn))])) => ?_)
  have hl : lv_has _ _ ([(2, .int (nI nn)), (1, .int 0), (0, .int (nI nn))]) := lv_sub hl [0, 1, 2] rfl
  refine (fun (loop : ∀ (n9 : Nat) (bb : Nat) (cq : Int32) (H : Heap) (locs : List Loc) (ls : Array Slot), (bb < 65536) →  (bb < n9) → va_P (dC, dI) vwCl ([]) H → va_D A ([]) → va_S A s.heap H locs → lv_has ls 3 [(2, .int (nI bb)), (1, .int cq), (0, .int (nI nn))] → W p l e _ s m _ below meth c H locs 0 0 _ (F0 m 4 ls [])) => loop (65536) nn 0 _ _ _ (by omega) (by omega) hP hD hS hl) ?_
  intro n9
  induction n9 with
  | zero => intro bb cq H locs ls hbb hf9; exact False.elim (by omega)
  | succ n9 ih4 =>
    intro bb cq H locs ls hbb hf4 hP hD hS hl
    refine lv_iload_n hx hb dX12_ones_4 rfl (lv_at hl 0 rfl) ?_
    refine lv_if_le (tgt := 20) hx hb dX12_ones_5 (by decide) (fun c_5 => ?_) (fun c_5 => ?_)
    · have t_5 : ((bb : Nat) : Int) ≤ 0 := toI_le c_5 (nI_toInt (by omega)) (by decide)
      refine lv_iload_n hx hb dX12_ones_20 rfl (lv_at hl 1 rfl) ?_
      refine W.widen (k := 0) (n := 0) (by decide +kernel) (by decide +kernel) ?_
      exact W.iret (v := cq) hx hb hr (fun t9_ ht hW => ⟨⟨cq, (), rfl, trivial, trivial⟩, hS.F ht⟩) hS.2.2 dX12_ones_21
    · have t_5 : ¬ ((bb : Nat) : Int) ≤ 0 := toI_nle c_5 (nI_toInt (by omega)) (by decide)
      refine lv_iinc (v := (cq + 1)) hx hb dX12_ones_8 hl (k := 1) rfl rfl (by decide) rfl (fun ls (hl : lv_has ls _ ([(1, .int (cq + 1)), (2, .int (nI bb)), (0, .int (nI nn))])) => ?_)
      refine lv_iload_n hx hb dX12_ones_11 rfl (lv_at hl 1 rfl) ?_
      refine lv_iload_n hx hb dX12_ones_12 rfl (lv_at hl 1 rfl) ?_
      refine lv_iconst (v := 1) hx hb dX12_ones_13 (by decide) ?_
      refine lv_isub hx hb dX12_ones_14 ?_
      refine lv_topi (fun y1 hy1 => ?_)
      obtain rfl : (nI (bb - 1)) = y1 := (hy1.trans (pk_sub (a := bb) (b := 1) (by omega))).symm
      refine lv_iand hx hb dX12_ones_15 ?_
      refine lv_topi (fun y2 hy2 => ?_)
      obtain rfl : (nI (bb &&& (bb - 1))) = y2 := (hy2.trans (and_nI _ _)).symm
      refine lv_istore_n hx hb dX12_ones_16 rfl hl (by decide) rfl (fun ls (hl : lv_has ls _ ([(2, .int (nI (bb &&& (bb - 1)))), (1, .int (cq + 1)), (0, .int (nI nn))])) => ?_)
      have h1 := low_lt bb (by omega)
      refine lv_goto (tgt := 4) hx hb dX12_ones_17 (by decide) ?_
      have hl : lv_has _ _ ([(2, .int (nI (bb &&& (bb - 1)))), (1, .int (cq + 1)), (0, .int (nI nn))]) := lv_sub hl [0, 1, 2] rfl
      exact ih4 (bb &&& (bb - 1)) (cq + 1) _ _ _ (by omega) (by omega) hP hD hS hl
theorem dX12_list_0 : decode cX12_list 0 = .ok (.iconst 0, 1) := dk_3 (by decide +kernel)
theorem dX12_list_1 : decode cX12_list 1 = .ok (.istore_n 1, 1) := dk_60 (by decide +kernel)
theorem dX12_list_2 : decode cX12_list 2 = .ok (.iload_n 1, 1) := dk_27 (by decide +kernel)
theorem dX12_list_3 : decode cX12_list 3 = .ok (.aload_n 0, 1) := dk_42 (by decide +kernel)
theorem dX12_list_4 : decode cX12_list 4 = .ok (.getfield 978, 3) := dk_180 (by decide +kernel)
theorem dX12_list_7 : decode cX12_list 7 = .ok (.if_icmp .ge 27, 3) := dk_162 (by decide +kernel)
theorem dX12_list_10 : decode cX12_list 10 = .ok (.aload_n 0, 1) := dk_42 (by decide +kernel)
theorem dX12_list_11 : decode cX12_list 11 = .ok (.getfield 293, 3) := dk_180 (by decide +kernel)
theorem dX12_list_14 : decode cX12_list 14 = .ok (.iload_n 1, 1) := dk_27 (by decide +kernel)
theorem dX12_list_15 : decode cX12_list 15 = .ok (.iconst (-1), 1) := dk_2 (by decide +kernel)
theorem dX12_list_16 : decode cX12_list 16 = .ok (.iastore, 1) := dk_79 (by decide +kernel)
theorem dX12_list_17 : decode cX12_list 17 = .ok (.aload_n 0, 1) := dk_42 (by decide +kernel)
theorem dX12_list_18 : decode cX12_list 18 = .ok (.getfield 293, 3) := dk_180 (by decide +kernel)
theorem dX12_list_21 : decode cX12_list 21 = .ok (.iload_n 1, 1) := dk_27 (by decide +kernel)
theorem dX12_list_22 : decode cX12_list 22 = .ok (.aload_n 0, 1) := dk_42 (by decide +kernel)
theorem dX12_list_23 : decode cX12_list 23 = .ok (.iload_n 1, 1) := dk_27 (by decide +kernel)
theorem dX12_list_24 : decode cX12_list 24 = .ok (.invokevirtual 1034, 3) := dk_182 (by decide +kernel)
theorem dX12_list_27 : decode cX12_list 27 = .ok (.iastore, 1) := dk_79 (by decide +kernel)
theorem dX12_list_28 : decode cX12_list 28 = .ok (.iinc 1 1, 3) := dk_132 (by decide +kernel)
theorem dX12_list_31 : decode cX12_list 31 = .ok (.goto (-29), 3) := dk_167 (by decide +kernel)
theorem dX12_list_34 : decode cX12_list 34 = .ok (.iconst 0, 1) := dk_3 (by decide +kernel)
theorem dX12_list_35 : decode cX12_list 35 = .ok (.istore_n 1, 1) := dk_60 (by decide +kernel)
theorem dX12_list_36 : decode cX12_list 36 = .ok (.iconst 1, 1) := dk_4 (by decide +kernel)
theorem dX12_list_37 : decode cX12_list 37 = .ok (.istore_n 2, 1) := dk_61 (by decide +kernel)
theorem dX12_list_38 : decode cX12_list 38 = .ok (.iload_n 2, 1) := dk_28 (by decide +kernel)
theorem dX12_list_39 : decode cX12_list 39 = .ok (.ifCond .eq 181, 3) := dk_153 (by decide +kernel)
theorem dX12_list_42 : decode cX12_list 42 = .ok (.iload_n 1, 1) := dk_27 (by decide +kernel)
theorem dX12_list_43 : decode cX12_list 43 = .ok (.sipush 5000, 3) := dk_17 (by decide +kernel)
theorem dX12_list_46 : decode cX12_list 46 = .ok (.if_icmp .ge 174, 3) := dk_162 (by decide +kernel)
theorem dX12_list_49 : decode cX12_list 49 = .ok (.iconst 1, 1) := dk_4 (by decide +kernel)
theorem dX12_list_50 : decode cX12_list 50 = .ok (.istore_n 3, 1) := dk_62 (by decide +kernel)
theorem dX12_list_51 : decode cX12_list 51 = .ok (.iconst 0, 1) := dk_3 (by decide +kernel)
theorem dX12_list_52 : decode cX12_list 52 = .ok (.istore 4, 2) := dk_54 (by decide +kernel)
theorem dX12_list_54 : decode cX12_list 54 = .ok (.iload 4, 2) := dk_21 (by decide +kernel)
theorem dX12_list_56 : decode cX12_list 56 = .ok (.aload_n 0, 1) := dk_42 (by decide +kernel)
theorem dX12_list_57 : decode cX12_list 57 = .ok (.getfield 990, 3) := dk_180 (by decide +kernel)
theorem dX12_list_60 : decode cX12_list 60 = .ok (.if_icmp .ge 20, 3) := dk_162 (by decide +kernel)
theorem dX12_list_63 : decode cX12_list 63 = .ok (.iload_n 3, 1) := dk_29 (by decide +kernel)
theorem dX12_list_64 : decode cX12_list 64 = .ok (.ifCond .eq 16, 3) := dk_153 (by decide +kernel)
theorem dX12_list_67 : decode cX12_list 67 = .ok (.aload_n 0, 1) := dk_42 (by decide +kernel)
theorem dX12_list_68 : decode cX12_list 68 = .ok (.iload 4, 2) := dk_21 (by decide +kernel)
theorem dX12_list_70 : decode cX12_list 70 = .ok (.invokevirtual 1037, 3) := dk_182 (by decide +kernel)
theorem dX12_list_73 : decode cX12_list 73 = .ok (.istore_n 3, 1) := dk_62 (by decide +kernel)
theorem dX12_list_74 : decode cX12_list 74 = .ok (.iinc 4 1, 3) := dk_132 (by decide +kernel)
theorem dX12_list_77 : decode cX12_list 77 = .ok (.goto (-23), 3) := dk_167 (by decide +kernel)
theorem dX12_list_80 : decode cX12_list 80 = .ok (.iconst 0, 1) := dk_3 (by decide +kernel)
theorem dX12_list_81 : decode cX12_list 81 = .ok (.istore 4, 2) := dk_54 (by decide +kernel)
theorem dX12_list_83 : decode cX12_list 83 = .ok (.iload 4, 2) := dk_21 (by decide +kernel)
theorem dX12_list_85 : decode cX12_list 85 = .ok (.aload_n 0, 1) := dk_42 (by decide +kernel)
theorem dX12_list_86 : decode cX12_list 86 = .ok (.getfield 978, 3) := dk_180 (by decide +kernel)
theorem dX12_list_89 : decode cX12_list 89 = .ok (.if_icmp .ge 32, 3) := dk_162 (by decide +kernel)
theorem dX12_list_92 : decode cX12_list 92 = .ok (.iload_n 3, 1) := dk_29 (by decide +kernel)
theorem dX12_list_93 : decode cX12_list 93 = .ok (.ifCond .eq 28, 3) := dk_153 (by decide +kernel)
theorem dX12_list_96 : decode cX12_list 96 = .ok (.aload_n 0, 1) := dk_42 (by decide +kernel)
theorem dX12_list_97 : decode cX12_list 97 = .ok (.getfield 297, 3) := dk_180 (by decide +kernel)
theorem dX12_list_100 : decode cX12_list 100 = .ok (.bipush 10, 2) := dk_16 (by decide +kernel)
theorem dX12_list_102 : decode cX12_list 102 = .ok (.iload_n 1, 1) := dk_27 (by decide +kernel)
theorem dX12_list_103 : decode cX12_list 103 = .ok (.imul, 1) := dk_104 (by decide +kernel)
theorem dX12_list_104 : decode cX12_list 104 = .ok (.iload 4, 2) := dk_21 (by decide +kernel)
theorem dX12_list_106 : decode cX12_list 106 = .ok (.iadd, 1) := dk_96 (by decide +kernel)
theorem dX12_list_107 : decode cX12_list 107 = .ok (.aload_n 0, 1) := dk_42 (by decide +kernel)
theorem dX12_list_108 : decode cX12_list 108 = .ok (.getfield 293, 3) := dk_180 (by decide +kernel)
theorem dX12_list_111 : decode cX12_list 111 = .ok (.iload 4, 2) := dk_21 (by decide +kernel)
theorem dX12_list_113 : decode cX12_list 113 = .ok (.iaload, 1) := dk_46 (by decide +kernel)
theorem dX12_list_114 : decode cX12_list 114 = .ok (.iastore, 1) := dk_79 (by decide +kernel)
theorem dX12_list_115 : decode cX12_list 115 = .ok (.iinc 4 1, 3) := dk_132 (by decide +kernel)
theorem dX12_list_118 : decode cX12_list 118 = .ok (.goto (-35), 3) := dk_167 (by decide +kernel)
theorem dX12_list_121 : decode cX12_list 121 = .ok (.iload_n 1, 1) := dk_27 (by decide +kernel)
theorem dX12_list_122 : decode cX12_list 122 = .ok (.iload_n 3, 1) := dk_29 (by decide +kernel)
theorem dX12_list_123 : decode cX12_list 123 = .ok (.ifCond .eq 7, 3) := dk_153 (by decide +kernel)
theorem dX12_list_126 : decode cX12_list 126 = .ok (.iconst 1, 1) := dk_4 (by decide +kernel)
theorem dX12_list_127 : decode cX12_list 127 = .ok (.goto 4, 3) := dk_167 (by decide +kernel)
theorem dX12_list_130 : decode cX12_list 130 = .ok (.iconst 0, 1) := dk_3 (by decide +kernel)
theorem dX12_list_131 : decode cX12_list 131 = .ok (.iadd, 1) := dk_96 (by decide +kernel)
theorem dX12_list_132 : decode cX12_list 132 = .ok (.istore_n 1, 1) := dk_60 (by decide +kernel)
theorem dX12_list_133 : decode cX12_list 133 = .ok (.iconst 0, 1) := dk_3 (by decide +kernel)
theorem dX12_list_134 : decode cX12_list 134 = .ok (.istore_n 2, 1) := dk_61 (by decide +kernel)
theorem dX12_list_135 : decode cX12_list 135 = .ok (.aload_n 0, 1) := dk_42 (by decide +kernel)
theorem dX12_list_136 : decode cX12_list 136 = .ok (.getfield 978, 3) := dk_180 (by decide +kernel)
theorem dX12_list_139 : decode cX12_list 139 = .ok (.iconst 1, 1) := dk_4 (by decide +kernel)
theorem dX12_list_140 : decode cX12_list 140 = .ok (.isub, 1) := dk_100 (by decide +kernel)
theorem dX12_list_141 : decode cX12_list 141 = .ok (.istore 4, 2) := dk_54 (by decide +kernel)
theorem dX12_list_143 : decode cX12_list 143 = .ok (.iload 4, 2) := dk_21 (by decide +kernel)
theorem dX12_list_145 : decode cX12_list 145 = .ok (.ifCond .lt 72, 3) := dk_155 (by decide +kernel)
theorem dX12_list_148 : decode cX12_list 148 = .ok (.iload_n 2, 1) := dk_28 (by decide +kernel)
theorem dX12_list_149 : decode cX12_list 149 = .ok (.ifCond .ne 68, 3) := dk_154 (by decide +kernel)
theorem dX12_list_152 : decode cX12_list 152 = .ok (.aload_n 0, 1) := dk_42 (by decide +kernel)
theorem dX12_list_153 : decode cX12_list 153 = .ok (.getfield 293, 3) := dk_180 (by decide +kernel)
theorem dX12_list_156 : decode cX12_list 156 = .ok (.iload 4, 2) := dk_21 (by decide +kernel)
theorem dX12_list_158 : decode cX12_list 158 = .ok (.aload_n 0, 1) := dk_42 (by decide +kernel)
theorem dX12_list_159 : decode cX12_list 159 = .ok (.iload 4, 2) := dk_21 (by decide +kernel)
theorem dX12_list_161 : decode cX12_list 161 = .ok (.invokevirtual 1034, 3) := dk_182 (by decide +kernel)
theorem dX12_list_164 : decode cX12_list 164 = .ok (.iastore, 1) := dk_79 (by decide +kernel)
theorem dX12_list_165 : decode cX12_list 165 = .ok (.aload_n 0, 1) := dk_42 (by decide +kernel)
theorem dX12_list_166 : decode cX12_list 166 = .ok (.getfield 293, 3) := dk_180 (by decide +kernel)
theorem dX12_list_169 : decode cX12_list 169 = .ok (.iload 4, 2) := dk_21 (by decide +kernel)
theorem dX12_list_171 : decode cX12_list 171 = .ok (.iaload, 1) := dk_46 (by decide +kernel)
theorem dX12_list_172 : decode cX12_list 172 = .ok (.bipush 16, 2) := dk_16 (by decide +kernel)
theorem dX12_list_174 : decode cX12_list 174 = .ok (.if_icmp .ge 7, 3) := dk_162 (by decide +kernel)
theorem dX12_list_177 : decode cX12_list 177 = .ok (.iconst 1, 1) := dk_4 (by decide +kernel)
theorem dX12_list_178 : decode cX12_list 178 = .ok (.goto 4, 3) := dk_167 (by decide +kernel)
theorem dX12_list_181 : decode cX12_list 181 = .ok (.iconst 0, 1) := dk_3 (by decide +kernel)
theorem dX12_list_182 : decode cX12_list 182 = .ok (.istore_n 2, 1) := dk_61 (by decide +kernel)
theorem dX12_list_183 : decode cX12_list 183 = .ok (.iload_n 2, 1) := dk_28 (by decide +kernel)
theorem dX12_list_184 : decode cX12_list 184 = .ok (.ifCond .eq 6, 3) := dk_153 (by decide +kernel)
theorem dX12_list_187 : decode cX12_list 187 = .ok (.goto 24, 3) := dk_167 (by decide +kernel)
theorem dX12_list_190 : decode cX12_list 190 = .ok (.aload_n 0, 1) := dk_42 (by decide +kernel)
theorem dX12_list_191 : decode cX12_list 191 = .ok (.getfield 293, 3) := dk_180 (by decide +kernel)
theorem dX12_list_194 : decode cX12_list 194 = .ok (.iload 4, 2) := dk_21 (by decide +kernel)
theorem dX12_list_196 : decode cX12_list 196 = .ok (.iconst (-1), 1) := dk_2 (by decide +kernel)
theorem dX12_list_197 : decode cX12_list 197 = .ok (.iastore, 1) := dk_79 (by decide +kernel)
theorem dX12_list_198 : decode cX12_list 198 = .ok (.aload_n 0, 1) := dk_42 (by decide +kernel)
theorem dX12_list_199 : decode cX12_list 199 = .ok (.getfield 293, 3) := dk_180 (by decide +kernel)
theorem dX12_list_202 : decode cX12_list 202 = .ok (.iload 4, 2) := dk_21 (by decide +kernel)
theorem dX12_list_204 : decode cX12_list 204 = .ok (.aload_n 0, 1) := dk_42 (by decide +kernel)
theorem dX12_list_205 : decode cX12_list 205 = .ok (.iload 4, 2) := dk_21 (by decide +kernel)
theorem dX12_list_207 : decode cX12_list 207 = .ok (.invokevirtual 1034, 3) := dk_182 (by decide +kernel)
theorem dX12_list_210 : decode cX12_list 210 = .ok (.iastore, 1) := dk_79 (by decide +kernel)
theorem dX12_list_211 : decode cX12_list 211 = .ok (.iinc 4 (-1), 3) := dk_132 (by decide +kernel)
theorem dX12_list_214 : decode cX12_list 214 = .ok (.goto (-71), 3) := dk_167 (by decide +kernel)
theorem dX12_list_217 : decode cX12_list 217 = .ok (.goto (-179), 3) := dk_167 (by decide +kernel)
theorem dX12_list_220 : decode cX12_list 220 = .ok (.iload_n 1, 1) := dk_27 (by decide +kernel)
theorem dX12_list_221 : decode cX12_list 221 = .ok (.ireturn, 1) := dk_172 (by decide +kernel)
def wsRX12_list : List Cond := .code yX12_list cX12_list 5 (some .int) :: ([.fieldLink RX12 978 "OptimaWorksModel" "holders" "I", .fieldLink RX12 990 "OptimaWorksModel" "rules" "I", .fieldLink RX12 297 "OptimaWorksModel" "listedRow" "[I", .fieldLink RX12 293 "OptimaWorksModel" "rowValue" "[I"] ++ wsX120 ++ (wsV RX12 1037 RX12 yX12_keepsRule wsRX12_keepsRule) ++ (wsV RX12 1034 RX12 yX12_above wsRX12_above))
theorem iwsRX12_list_in12 : ∀ w ∈ wsX120, w ∈ wsRX12_list := fun _ h => List.mem_cons_of_mem _ (List.mem_append_left _ (List.mem_append_left _ (List.mem_append_right _ h)))
theorem gwsRX12_list_0 : GoodIn wsRX12_list (wsV RX12 1037 RX12 yX12_keepsRule wsRX12_keepsRule) := goodIn_sub (fun _ h => List.mem_cons_of_mem _ (List.mem_append_left _ (List.mem_append_right _ h))) (gdV (by decide +kernel) gdwsRX12_keepsRule)
theorem gwsRX12_list_1 : GoodIn wsRX12_list (wsV RX12 1034 RX12 yX12_above wsRX12_above) := goodIn_sub (fun _ h => List.mem_cons_of_mem _ (List.mem_append_right _ h)) (gdV (by decide +kernel) gdwsRX12_above)
theorem gdwsRX12_list : wsRX12_list.all goodWord = true := gdC rfl (gdA (gdA (gdA (by decide +kernel : ([.fieldLink RX12 978 "OptimaWorksModel" "holders" "I", .fieldLink RX12 990 "OptimaWorksModel" "rules" "I", .fieldLink RX12 297 "OptimaWorksModel" "listedRow" "[I", .fieldLink RX12 293 "OptimaWorksModel" "rowValue" "[I"] : List Cond).all goodWord = true) gdwsX120) (gdV (by decide +kernel) gdwsRX12_keepsRule)) (gdV (by decide +kernel) gdwsRX12_above))
set_option maxHeartbeats 4000000 in
set_option maxRecDepth 100000 in
/-- list() -/
theorem r_X12_list (l : Launch) (dC : Nat → ClassId) (dI : Nat → Nat → Nat) (a : Nat → Nat) (k : Nat → ClassId) (h0 : Nat) (vi : Nat → Int32) (vj : Nat → Int64) (vF : Nat → Nat → Int32) (vG : Nat → Nat → Int64) (hn : Nat) (ru : Nat) (hhn : vi 128 = nI hn) (hhn10 : hn ≤ 10) (hru : vi 129 = nI ru) (hru12 : ru ≤ 12) (hRu : RuO (vF 80) (vF 81) (vF 82) (vF 83) hn ru) (sz : Nat) : Met l yX12_list wsRX12_list ({ frames := 5, cells := 0, slots := 0, locals := 118 }) (va_Pc [.ref h0] (fun U => U.heap.size = sz ∧ va_P (dC, dI) vwCl (WR a k h0 vi vj vF vG) U.heap ∧ va_K (dC, dI) vwCl (tX12 k) U ∧ va_D (fun _ => True) (WR a k h0 vi vj vF vG))) (va_Qi (fun (r : Int32) (u : (Nat) × (Nat → Int32) × (Nat → Int32) × (Nat → Int32) × (Nat → Int32) × (Nat → Int32) × (Nat → Int32)) => r = (nI (u.1)) ∧ ((u.1) ≤ 5000)) (fun (u : (Nat) × (Nat → Int32) × (Nat → Int32) × (Nat → Int32) × (Nat → Int32) × (Nat → Int32) × (Nat → Int32)) t => va_P (dC, dI) vwCl (WR a k h0 vi vj (fT (fT (fT (fT (fT (fT vF 90 (u.2.1)) 91 (u.2.2.1)) 86 (u.2.2.2.1)) 87 (u.2.2.2.2.1)) 88 (u.2.2.2.2.2.1)) 89 (u.2.2.2.2.2.2)) vG) t.heap ∧ va_D (va_A (WR a k h0 vi vj vF vG) sz) (WR a k h0 vi vj (fT (fT (fT (fT (fT (fT vF 90 (u.2.1)) 91 (u.2.2.1)) 86 (u.2.2.2.1)) 87 (u.2.2.2.2.1)) 88 (u.2.2.2.2.2.1)) 89 (u.2.2.2.2.2.2)) vG)) (va_A (WR a k h0 vi vj vF vG) sz)) 0 0 (va_A (WR a k h0 vi vj vF vG) sz) := by
  refine Met.ofW (cc := cX12_list) (maxL := 5) (ret := (some .int)) (by decide) rfl ?_
  intro p e s m args below meth c s₁ B hml hv
  obtain ⟨rfl, hsz, hP, hK, hD0⟩ := hv
  have hx := B.exec
  have hb := B.bytes
  have hr := B.returns
  have hts := atoms_spec (ws := wsRX12_list) B.pre
  have hown : s.vm.findClass RX12 = some m.cls := findClass_of_methodNamed B.named
  have hlocks := B.notSynchronized
  subst hsz
  have hD := hD0.self (sz := s.heap.size)
  generalize hAe : va_A (WR a k h0 vi vj vF vG) s.heap.size = A at hD ⊢
  have hA : ∀ q : Nat, s.heap.size ≤ q → A q := fun q h => by rw [← hAe]; exact Or.inr h
  have hS : va_S A s.heap s.heap [] := va_S.rf
  have hl := lv_entry ([.ref h0]) (n := 5) (Nat.le_of_ble_eq_true rfl)
  rw [lg_entry_eq]
  generalize (lg_sl ([.ref h0]) ++ List.replicate (5 - (lg_sl ([.ref h0])).length) Slot.unset).toArray = ls at hl ⊢
  have hl : lv_has ls 5 [(0, .ref h0)] := hl
  refine lv_iconst (v := 0) hx hb dX12_list_0 (by decide) ?_
  refine lv_istore_n hx hb dX12_list_1 rfl hl (by decide) rfl (fun ls (hl : lv_has ls _ ([(1, .int 0), (0, .ref h0)])) => ?_)
  have e9 : fT vF 90 (vF 90) = vF := by funext q9; by_cases h9_90 : q9 = 90; (subst h9_90; exact (fT_eq _ _ _).trans (Eq.trans (by first | rfl | assumption | (symm; assumption) | (subst_vars; rfl)) (Eq.refl _).symm)); exact (fT_ne _ _ h9_90).trans (Eq.refl _).symm
  have hP : va_P (dC, dI) vwCl (WR a k h0 vi vj (fT vF 90 (vF 90)) vG) s.heap := by rw [e9]; exact hP
  have hD : va_D A (WR a k h0 vi vj (fT vF 90 (vF 90)) vG) := by rw [e9]; exact hD
  clear e9
  have hl : lv_has _ _ ([(0, .ref h0), (1, .int (nI 0))]) := lv_sub hl [1, 0] rfl
  refine (fun (loop : ∀ (n9 : Nat) (h1 : Nat) (g0 : Nat → Int32) (H : Heap) (locs : List Loc) (ls : Array Slot), (h1 ≤ hn) → (∀ h, h < h1 → -1 ≤ (g0 h).toInt ∧ (g0 h).toInt ≤ 16) →  (hn < h1 + n9) → va_P (dC, dI) vwCl (WR a k h0 vi vj (fT vF 90 g0) vG) H → va_D A (WR a k h0 vi vj (fT vF 90 g0) vG) → va_S A s.heap H locs → lv_has ls 5 [(0, .ref h0), (1, .int (nI h1))] → W p l e _ s m _ below meth c H locs 0 0 _ (F0 m 2 ls [])) => loop (hn + 1) 0 (vF 90) _ _ _ (by omega) (fun h hh => absurd hh (by omega)) (by omega) hP hD hS hl) ?_
  intro n9
  induction n9 with
  | zero => intro h1 g0 H locs ls hh1 hz hf9; exact False.elim (by omega)
  | succ n9 ih2 =>
    intro h1 g0 H locs ls hh1 hz hf2 hP hD hS hl
    refine lv_iload_n hx hb dX12_list_2 rfl (lv_at hl 1 rfl) ?_
    refine lv_aload_n hx hb dX12_list_3 rfl (lv_at hl 0 rfl) ?_
    refine va_get (D := (dC, dI)) (ci := 12) (v := .int (vi 128)) (C := RX12) (T := TX12) (N := 163) (fs := fM (vS a vi vj)) hx hb hts iwsRX12_list_in12 hown hK hP 0 rfl rfl 128 (by decide) (hts (.fieldLink RX12 978 "OptimaWorksModel" "holders" "I") (by decide +kernel)) (fun _ h9 => h9) rfl dX12_list_4 ?_
    refine lv_topi (fun y1 hy1 => ?_)
    obtain rfl : (nI hn) = y1 := (hy1.trans (hhn)).symm
    refine lv_icmp_ge (tgt := 34) hx hb dX12_list_7 (by decide) (fun c_7 => ?_) (fun c_7 => ?_)
    · have t_7 : ((h1 : Nat) : Int) ≥ ((hn : Nat) : Int) := toI_ge c_7 (nI_toInt (by omega)) (nI_toInt (by omega))
      refine lv_iconst (v := 0) hx hb dX12_list_34 (by decide) ?_
      refine lv_istore_n hx hb dX12_list_35 rfl hl (by decide) rfl (fun ls (hl : lv_has ls _ ([(1, .int 0), (0, .ref h0)])) => ?_)
      refine lv_iconst (v := 1) hx hb dX12_list_36 (by decide) ?_
      refine lv_istore_n hx hb dX12_list_37 rfl hl (by decide) rfl (fun ls (hl : lv_has ls _ ([(2, .int 1), (1, .int 0), (0, .ref h0)])) => ?_)
      have e9 : fT (fT (fT (fT (fT (fT vF 90 g0) 91 (vF 91)) 86 (vF 86)) 87 (vF 87)) 88 (vF 88)) 89 (vF 89) = fT vF 90 g0 := by funext q9; by_cases h9_90 : q9 = 90; (subst h9_90; exact ((fT_ne _ _ (Nat.ne_of_beq_eq_false rfl)).trans ((fT_ne _ _ (Nat.ne_of_beq_eq_false rfl)).trans ((fT_ne _ _ (Nat.ne_of_beq_eq_false rfl)).trans ((fT_ne _ _ (Nat.ne_of_beq_eq_false rfl)).trans ((fT_ne _ _ (Nat.ne_of_beq_eq_false rfl)).trans (fT_eq _ _ _)))))).trans (Eq.trans (by first | rfl | assumption | (symm; assumption) | (subst_vars; rfl)) (fT_eq _ _ _).symm)); by_cases h9_91 : q9 = 91; (subst h9_91; exact ((fT_ne _ _ (Nat.ne_of_beq_eq_false rfl)).trans ((fT_ne _ _ (Nat.ne_of_beq_eq_false rfl)).trans ((fT_ne _ _ (Nat.ne_of_beq_eq_false rfl)).trans ((fT_ne _ _ (Nat.ne_of_beq_eq_false rfl)).trans (fT_eq _ _ _))))).trans (Eq.trans (by first | rfl | assumption | (symm; assumption) | (subst_vars; rfl)) (fT_ne _ _ (Nat.ne_of_beq_eq_false rfl)).symm)); by_cases h9_86 : q9 = 86; (subst h9_86; exact ((fT_ne _ _ (Nat.ne_of_beq_eq_false rfl)).trans ((fT_ne _ _ (Nat.ne_of_beq_eq_false rfl)).trans ((fT_ne _ _ (Nat.ne_of_beq_eq_false rfl)).trans (fT_eq _ _ _)))).trans (Eq.trans (by first | rfl | assumption | (symm; assumption) | (subst_vars; rfl)) (fT_ne _ _ (Nat.ne_of_beq_eq_false rfl)).symm)); by_cases h9_87 : q9 = 87; (subst h9_87; exact ((fT_ne _ _ (Nat.ne_of_beq_eq_false rfl)).trans ((fT_ne _ _ (Nat.ne_of_beq_eq_false rfl)).trans (fT_eq _ _ _))).trans (Eq.trans (by first | rfl | assumption | (symm; assumption) | (subst_vars; rfl)) (fT_ne _ _ (Nat.ne_of_beq_eq_false rfl)).symm)); by_cases h9_88 : q9 = 88; (subst h9_88; exact ((fT_ne _ _ (Nat.ne_of_beq_eq_false rfl)).trans (fT_eq _ _ _)).trans (Eq.trans (by first | rfl | assumption | (symm; assumption) | (subst_vars; rfl)) (fT_ne _ _ (Nat.ne_of_beq_eq_false rfl)).symm)); by_cases h9_89 : q9 = 89; (subst h9_89; exact (fT_eq _ _ _).trans (Eq.trans (by first | rfl | assumption | (symm; assumption) | (subst_vars; rfl)) (fT_ne _ _ (Nat.ne_of_beq_eq_false rfl)).symm)); exact ((fT_ne _ _ h9_89).trans ((fT_ne _ _ h9_88).trans ((fT_ne _ _ h9_87).trans ((fT_ne _ _ h9_86).trans ((fT_ne _ _ h9_91).trans (fT_ne _ _ h9_90)))))).trans (fT_ne _ _ h9_90).symm
      have hP : va_P (dC, dI) vwCl (WR a k h0 vi vj (fT (fT (fT (fT (fT (fT vF 90 g0) 91 (vF 91)) 86 (vF 86)) 87 (vF 87)) 88 (vF 88)) 89 (vF 89)) vG) H := by rw [e9]; exact hP
      have hD : va_D A (WR a k h0 vi vj (fT (fT (fT (fT (fT (fT vF 90 g0) 91 (vF 91)) 86 (vF 86)) 87 (vF 87)) 88 (vF 88)) 89 (vF 89)) vG) := by rw [e9]; exact hD
      clear e9
      have hl : lv_has _ _ ([(0, .ref h0), (1, .int (nI 0)), (2, .int 1)]) := lv_sub hl [2, 1, 0] rfl
      refine (fun (loop : ∀ (n9 : Nat) (mo : Int32) (n5 : Nat) (rv : Nat → Int32) (x14_F91 : Nat → Int32) (x14_F86 : Nat → Int32) (x14_F87 : Nat → Int32) (x14_F88 : Nat → Int32) (x14_F89 : Nat → Int32) (H : Heap) (locs : List Loc) (ls : Array Slot), (RvO rv hn) → (n5 ≤ 5000) →  ((mo = 0 ∧ 0 < n9) ∨ odoP (fun _ => 18) hn < odo (dgR rv) (fun _ => 18) hn + n9) → va_P (dC, dI) vwCl (WR a k h0 vi vj (fT (fT (fT (fT (fT (fT vF 90 rv) 91 x14_F91) 86 x14_F86) 87 x14_F87) 88 x14_F88) 89 x14_F89) vG) H → va_D A (WR a k h0 vi vj (fT (fT (fT (fT (fT (fT vF 90 rv) 91 x14_F91) 86 x14_F86) 87 x14_F87) 88 x14_F88) 89 x14_F89) vG) → va_S A s.heap H locs → lv_has ls 5 [(0, .ref h0), (1, .int (nI n5)), (2, .int mo)] → W p l e _ s m _ below meth c H locs 0 0 _ (F0 m 38 ls [])) => loop (odoP (fun _ => 18) hn + 1) 1 0 g0 (vF 91) (vF 86) (vF 87) (vF 88) (vF 89) _ _ _ (fun h hh => hz h (by omega)) (by omega) (Or.inr (by omega)) hP hD hS hl) ?_
      intro n9
      induction n9 with
      | zero => intro mo n5 rv x14_F91 x14_F86 x14_F87 x14_F88 x14_F89 H locs ls hRv hn5 hf9; exact False.elim (by (have h9 := odo_lt (f := dgR rv) (b := fun _ => 18) hn (fun q hq => hRv.dg hq)); omega)
      | succ n9 ih38_1 =>
        intro mo n5 rv x14_F91 x14_F86 x14_F87 x14_F88 x14_F89 H locs ls hRv hn5 hf38_1 hP hD hS hl
        have hfx := hf38_1
        refine lv_iload_n hx hb dX12_list_38 rfl (lv_at hl 2 rfl) ?_
        refine lv_if_eq (tgt := 220) hx hb dX12_list_39 (by decide) (fun c_39 => ?_) (fun c_39 => ?_)
        · have t_39 : (mo).toInt = 0 := toI_eq c_39 rfl (by decide)
          refine lv_iload_n hx hb dX12_list_220 rfl (lv_at hl 1 rfl) ?_
          refine W.widen (k := 0) (n := 0) (by decide +kernel) (by decide +kernel) ?_
          exact W.iret (v := (nI n5)) hx hb hr (fun t9_ ht hW => ⟨⟨(nI n5), (n5, rv, x14_F91, x14_F86, x14_F87, x14_F88, x14_F89), rfl, by (try dsimp only); exact ⟨rfl, hn5⟩, by rw [ht]; exact hP, hD⟩, hS.F ht⟩) hS.2.2 dX12_list_221
        · have t_39 : ¬ (mo).toInt = 0 := toI_neq c_39 rfl (by decide)
          refine lv_iload_n hx hb dX12_list_42 rfl (lv_at hl 1 rfl) ?_
          refine lv_sipush (v := 5000) hx hb dX12_list_43 (by decide) ?_
          refine lv_icmp_ge (tgt := 220) hx hb dX12_list_46 (by decide) (fun c_46 => ?_) (fun c_46 => ?_)
          · have t_46 : ((n5 : Nat) : Int) ≥ 5000 := toI_ge c_46 (nI_toInt (by omega)) (by decide)
            refine lv_iload_n hx hb dX12_list_220 rfl (lv_at hl 1 rfl) ?_
            refine W.widen (k := 0) (n := 0) (by decide +kernel) (by decide +kernel) ?_
            exact W.iret (v := (nI n5)) hx hb hr (fun t9_ ht hW => ⟨⟨(nI n5), (n5, rv, x14_F91, x14_F86, x14_F87, x14_F88, x14_F89), rfl, by (try dsimp only); exact ⟨rfl, hn5⟩, by rw [ht]; exact hP, hD⟩, hS.F ht⟩) hS.2.2 dX12_list_221
          · have t_46 : ¬ ((n5 : Nat) : Int) ≥ 5000 := toI_nge c_46 (nI_toInt (by omega)) (by decide)
            refine lv_iconst (v := 1) hx hb dX12_list_49 (by decide) ?_
            refine lv_istore_n hx hb dX12_list_50 rfl hl (by decide) rfl (fun ls (hl : lv_has ls _ ([(3, .int 1), (0, .ref h0), (1, .int (nI n5)), (2, .int mo)])) => ?_)
            refine lv_iconst (v := 0) hx hb dX12_list_51 (by decide) ?_
            refine lv_istore hx hb dX12_list_52 hl (by decide) rfl (fun ls (hl : lv_has ls _ ([(4, .int 0), (3, .int 1), (0, .ref h0), (1, .int (nI n5)), (2, .int mo)])) => ?_)
            have hl : lv_has _ _ ([(0, .ref h0), (1, .int (nI n5)), (3, .int 1), (4, .int (nI 0))]) := lv_sub hl [2, 3, 1, 0] rfl
            refine (fun (loop : ∀ (n9 : Nat) (r5 : Nat) (iq : Int32) (x21_F86 : Nat → Int32) (x21_F87 : Nat → Int32) (x21_F88 : Nat → Int32) (x21_F89 : Nat → Int32) (H : Heap) (locs : List Loc) (ls : Array Slot), (r5 ≤ ru) →  (ru < r5 + n9) → va_P (dC, dI) vwCl (WR a k h0 vi vj (fT (fT (fT (fT (fT (fT vF 90 rv) 91 x14_F91) 86 x21_F86) 87 x21_F87) 88 x21_F88) 89 x21_F89) vG) H → va_D A (WR a k h0 vi vj (fT (fT (fT (fT (fT (fT vF 90 rv) 91 x14_F91) 86 x21_F86) 87 x21_F87) 88 x21_F88) 89 x21_F89) vG) → va_S A s.heap H locs → lv_has ls 5 [(0, .ref h0), (1, .int (nI n5)), (3, .int iq), (4, .int (nI r5))] → W p l e _ s m _ below meth c H locs 0 0 _ (F0 m 54 ls [])) => loop (ru + 1) 0 1 x14_F86 x14_F87 x14_F88 x14_F89 _ _ _ (by omega) (by omega) hP hD hS hl) ?_
            intro n9
            induction n9 with
            | zero => intro r5 iq x21_F86 x21_F87 x21_F88 x21_F89 H locs ls hr5 hf9; exact False.elim (by omega)
            | succ n9 ih54_2 =>
              intro r5 iq x21_F86 x21_F87 x21_F88 x21_F89 H locs ls hr5 hf54_2 hP hD hS hl
              refine lv_iload hx hb dX12_list_54 (lv_at hl 3 rfl) ?_
              refine lv_aload_n hx hb dX12_list_56 rfl (lv_at hl 0 rfl) ?_
              refine va_get (D := (dC, dI)) (ci := 12) (v := .int (vi 129)) (C := RX12) (T := TX12) (N := 163) (fs := fM (vS a vi vj)) hx hb hts iwsRX12_list_in12 hown hK hP 0 rfl rfl 129 (by decide) (hts (.fieldLink RX12 990 "OptimaWorksModel" "rules" "I") (by decide +kernel)) (fun _ h9 => h9) rfl dX12_list_57 ?_
              refine lv_topi (fun y2 hy2 => ?_)
              obtain rfl : (nI ru) = y2 := (hy2.trans (hru)).symm
              refine W.cut (pc := 80) (fun H locs ls stk =>  stk = [] ∧ va_P (dC, dI) vwCl (WR a k h0 vi vj (fT (fT (fT (fT (fT (fT vF 90 rv) 91 x14_F91) 86 x21_F86) 87 x21_F87) 88 x21_F88) 89 x21_F89) vG) H ∧ va_D A (WR a k h0 vi vj (fT (fT (fT (fT (fT (fT vF 90 rv) 91 x14_F91) 86 x21_F86) 87 x21_F87) 88 x21_F88) 89 x21_F89) vG) ∧ va_S A s.heap H locs ∧ lv_has ls 5 [(0, .ref h0), (1, .int (nI n5)), (3, .int iq), (4, .int (nI r5))]) (fun join1 => ?_) ?_
              · refine lv_icmp_ge (tgt := 80) hx hb dX12_list_60 (by decide) (fun c_60 => ?_) (fun c_60 => ?_)
                · have t_60 : ((r5 : Nat) : Int) ≥ ((ru : Nat) : Int) := toI_ge c_60 (nI_toInt (by omega)) (nI_toInt (by omega))
                  have hl : lv_has _ _ ([(0, .ref h0), (1, .int (nI n5)), (3, .int iq), (4, .int (nI r5))]) := lv_sub hl [0, 1, 2, 3] rfl
                  exact join1 _ _ _ _ ⟨rfl, hP, hD, hS, hl⟩
                · have t_60 : ¬ ((r5 : Nat) : Int) ≥ ((ru : Nat) : Int) := toI_nge c_60 (nI_toInt (by omega)) (nI_toInt (by omega))
                  refine lv_iload_n hx hb dX12_list_63 rfl (lv_at hl 2 rfl) ?_
                  refine lv_if_eq (tgt := 80) hx hb dX12_list_64 (by decide) (fun c_64 => ?_) (fun c_64 => ?_)
                  · have t_64 : (iq).toInt = 0 := toI_eq c_64 rfl (by decide)
                    have hl : lv_has _ _ ([(0, .ref h0), (1, .int (nI n5)), (3, .int iq), (4, .int (nI r5))]) := lv_sub hl [0, 1, 2, 3] rfl
                    exact join1 _ _ _ _ ⟨rfl, hP, hD, hS, hl⟩
                  · have t_64 : ¬ (iq).toInt = 0 := toI_neq c_64 rfl (by decide)
                    refine lv_aload_n hx hb dX12_list_67 rfl (lv_at hl 0 rfl) ?_
                    refine lv_iload hx hb dX12_list_68 (lv_at hl 3 rfl) ?_
                    have hFc := allFree hD hS hA
                    refine va_calli (va_runV (As := [.int (nI r5)]) (rest := []) ⟨hx, hb, hml, hown, hts⟩ (r_X12_keepsRule l dC dI a k h0 vi vj (fT (fT (fT (fT (fT (fT vF 90 rv) 91 x14_F91) 86 x21_F86) 87 x21_F87) 88 x21_F88) 89 x21_F89) vG r5 hn (by first | assumption | decide | omega | rfl) hhn (by first | assumption | decide | omega | rfl) (hRu r5 (by omega)) H.size) (cwV 1 hts gwsRX12_list_0 rfl rfl rfl hd_yX12_keepsRule_RX12 (by decide +kernel)) (fz_pre (va_recv hK hP (ci := 12) (q0 := 0) rfl rfl) hP hK hD) rfl rfl hl.1 rfl (lv_room (Nat.le_of_ble_eq_true rfl)) dX12_list_70 (by decide +kernel)) hS (fun q _ h => hFc q h) hFc (fun r70 u t9_ H locs ht hvm hw9 hB9 hz1 hk1 hS => ?_)
                    obtain ⟨g8670, g8770, g8870, g8970⟩ := u
                    try dsimp only at hw9 hB9
                    have hP : va_P (dC, dI) vwCl (WR a k h0 vi vj (fT (fT (fT (fT (fT (fT (fT (fT (fT (fT vF 90 rv) 91 x14_F91) 86 x21_F86) 87 x21_F87) 88 x21_F88) 89 x21_F89) 86 g8670) 87 g8770) 88 g8870) 89 g8970) vG) H := fz_P ht hB9.1
                    have hD : va_D A (WR a k h0 vi vj (fT (fT (fT (fT (fT (fT (fT (fT (fT (fT vF 90 rv) 91 x14_F91) 86 x21_F86) 87 x21_F87) 88 x21_F88) 89 x21_F89) 86 g8670) 87 g8770) 88 g8870) 89 g8970) vG) := hB9.2.weaken (fun _ q _ h => hFc q.1 h)
                    have e9 : fT (fT (fT (fT (fT (fT vF 90 rv) 91 x14_F91) 86 g8670) 87 g8770) 88 g8870) 89 g8970 = fT (fT (fT (fT (fT (fT (fT (fT (fT (fT vF 90 rv) 91 x14_F91) 86 x21_F86) 87 x21_F87) 88 x21_F88) 89 x21_F89) 86 g8670) 87 g8770) 88 g8870) 89 g8970 := ((congrArg (fun g9 => fT (fT (fT g9 87 g8770) 88 g8870) 89 g8970) ((fT_sw _ _ _ (Nat.ne_of_beq_eq_false rfl)).trans (congrArg (fun g9 => fT g9 89 x21_F89) ((fT_sw _ _ _ (Nat.ne_of_beq_eq_false rfl)).trans (congrArg (fun g9 => fT g9 88 x21_F88) ((fT_sw _ _ _ (Nat.ne_of_beq_eq_false rfl)).trans (congrArg (fun g9 => fT g9 87 x21_F87) (fT_sm _ _ _ _)))))))).trans ((congrArg (fun g9 => fT (fT g9 88 g8870) 89 g8970) ((fT_sw _ _ _ (Nat.ne_of_beq_eq_false rfl)).trans (congrArg (fun g9 => fT g9 89 x21_F89) ((fT_sw _ _ _ (Nat.ne_of_beq_eq_false rfl)).trans (congrArg (fun g9 => fT g9 88 x21_F88) (fT_sm _ _ _ _)))))).trans ((congrArg (fun g9 => fT g9 89 g8970) ((fT_sw _ _ _ (Nat.ne_of_beq_eq_false rfl)).trans (congrArg (fun g9 => fT g9 89 x21_F89) (fT_sm _ _ _ _)))).trans (fT_sm _ _ _ _)))).symm
                    rw [← e9] at hP hD
                    clear e9
                    have hP : va_P (dC, dI) vwCl (WR a k h0 vi vj (fT (fT (fT (fT (fT (fT vF 90 rv) 91 x14_F91) 86 g8670) 87 g8770) 88 g8870) 89 g8970) vG) H := hP
                    have hD : va_D A (WR a k h0 vi vj (fT (fT (fT (fT (fT (fT vF 90 rv) 91 x14_F91) 86 g8670) 87 g8770) 88 g8870) 89 g8970) vG) := hD
                    rcases hw9 with rfl | rfl
                    · refine lv_istore_n hx hb dX12_list_73 rfl hl (by decide) rfl (fun ls (hl : lv_has ls _ ([(3, .int 1), (0, .ref h0), (1, .int (nI n5)), (4, .int (nI r5))])) => ?_)
                      refine lv_iinc (v := (nI (r5 + 1))) hx hb dX12_list_74 hl (k := 3) rfl (nI_add r5 1) (by decide) rfl (fun ls (hl : lv_has ls _ ([(4, .int (nI (r5 + 1))), (3, .int 1), (0, .ref h0), (1, .int (nI n5))])) => ?_)
                      refine lv_goto (tgt := 54) hx hb dX12_list_77 (by decide) ?_
                      have hl : lv_has _ _ ([(0, .ref h0), (1, .int (nI n5)), (3, .int 1), (4, .int (nI (r5 + 1)))]) := lv_sub hl [2, 3, 1, 0] rfl
                      exact ih54_2 (r5 + 1) 1 g8670 g8770 g8870 g8970 _ _ _ (by omega) (by omega) hP hD hS hl
                    · refine lv_istore_n hx hb dX12_list_73 rfl hl (by decide) rfl (fun ls (hl : lv_has ls _ ([(3, .int 0), (0, .ref h0), (1, .int (nI n5)), (4, .int (nI r5))])) => ?_)
                      refine lv_iinc (v := (nI (r5 + 1))) hx hb dX12_list_74 hl (k := 3) rfl (nI_add r5 1) (by decide) rfl (fun ls (hl : lv_has ls _ ([(4, .int (nI (r5 + 1))), (3, .int 0), (0, .ref h0), (1, .int (nI n5))])) => ?_)
                      refine lv_goto (tgt := 54) hx hb dX12_list_77 (by decide) ?_
                      have hl : lv_has _ _ ([(0, .ref h0), (1, .int (nI n5)), (3, .int 0), (4, .int (nI (r5 + 1)))]) := lv_sub hl [2, 3, 1, 0] rfl
                      exact ih54_2 (r5 + 1) 0 g8670 g8770 g8870 g8970 _ _ _ (by omega) (by omega) hP hD hS hl
              · rintro H locs ls stk ⟨rfl, hP, hD, hS, hl⟩
                refine lv_iconst (v := 0) hx hb dX12_list_80 (by decide) ?_
                refine lv_istore hx hb dX12_list_81 hl (by decide) rfl (fun ls (hl : lv_has ls _ ([(4, .int 0), (0, .ref h0), (1, .int (nI n5)), (3, .int iq)])) => ?_)
                have hl : lv_has _ _ ([(0, .ref h0), (1, .int (nI n5)), (3, .int iq), (4, .int (nI 0))]) := lv_sub hl [1, 2, 3, 0] rfl
                refine (fun (loop : ∀ (n9 : Nat) (h5 : Nat) (x25_F91 : Nat → Int32) (H : Heap) (locs : List Loc) (ls : Array Slot), (h5 ≤ hn) →  (hn < h5 + n9) → va_P (dC, dI) vwCl (WR a k h0 vi vj (fT (fT (fT (fT (fT (fT vF 90 rv) 91 x25_F91) 86 x21_F86) 87 x21_F87) 88 x21_F88) 89 x21_F89) vG) H → va_D A (WR a k h0 vi vj (fT (fT (fT (fT (fT (fT vF 90 rv) 91 x25_F91) 86 x21_F86) 87 x21_F87) 88 x21_F88) 89 x21_F89) vG) → va_S A s.heap H locs → lv_has ls 5 [(0, .ref h0), (1, .int (nI n5)), (3, .int iq), (4, .int (nI h5))] → W p l e _ s m _ below meth c H locs 0 0 _ (F0 m 83 ls [])) => loop (hn + 1) 0 x14_F91 _ _ _ (by omega) (by omega) hP hD hS hl) ?_
                intro n9
                induction n9 with
                | zero => intro h5 x25_F91 H locs ls hh5 hf9; exact False.elim (by omega)
                | succ n9 ih83_3 =>
                  intro h5 x25_F91 H locs ls hh5 hf83_3 hP hD hS hl
                  refine lv_iload hx hb dX12_list_83 (lv_at hl 3 rfl) ?_
                  refine lv_aload_n hx hb dX12_list_85 rfl (lv_at hl 0 rfl) ?_
                  refine va_get (D := (dC, dI)) (ci := 12) (v := .int (vi 128)) (C := RX12) (T := TX12) (N := 163) (fs := fM (vS a vi vj)) hx hb hts iwsRX12_list_in12 hown hK hP 0 rfl rfl 128 (by decide) (hts (.fieldLink RX12 978 "OptimaWorksModel" "holders" "I") (by decide +kernel)) (fun _ h9 => h9) rfl dX12_list_86 ?_
                  refine lv_topi (fun y3 hy3 => ?_)
                  obtain rfl : (nI hn) = y3 := (hy3.trans (hhn)).symm
                  refine W.cut (pc := 121) (fun H locs ls stk =>  stk = [] ∧ va_P (dC, dI) vwCl (WR a k h0 vi vj (fT (fT (fT (fT (fT (fT vF 90 rv) 91 x25_F91) 86 x21_F86) 87 x21_F87) 88 x21_F88) 89 x21_F89) vG) H ∧ va_D A (WR a k h0 vi vj (fT (fT (fT (fT (fT (fT vF 90 rv) 91 x25_F91) 86 x21_F86) 87 x21_F87) 88 x21_F88) 89 x21_F89) vG) ∧ va_S A s.heap H locs ∧ lv_has ls 5 [(0, .ref h0), (1, .int (nI n5)), (3, .int iq), (4, .int (nI h5))]) (fun join2 => ?_) ?_
                  · refine lv_icmp_ge (tgt := 121) hx hb dX12_list_89 (by decide) (fun c_89 => ?_) (fun c_89 => ?_)
                    · have t_89 : ((h5 : Nat) : Int) ≥ ((hn : Nat) : Int) := toI_ge c_89 (nI_toInt (by omega)) (nI_toInt (by omega))
                      have hl : lv_has _ _ ([(0, .ref h0), (1, .int (nI n5)), (3, .int iq), (4, .int (nI h5))]) := lv_sub hl [0, 1, 2, 3] rfl
                      exact join2 _ _ _ _ ⟨rfl, hP, hD, hS, hl⟩
                    · have t_89 : ¬ ((h5 : Nat) : Int) ≥ ((hn : Nat) : Int) := toI_nge c_89 (nI_toInt (by omega)) (nI_toInt (by omega))
                      refine lv_iload_n hx hb dX12_list_92 rfl (lv_at hl 2 rfl) ?_
                      refine lv_if_eq (tgt := 121) hx hb dX12_list_93 (by decide) (fun c_93 => ?_) (fun c_93 => ?_)
                      · have t_93 : (iq).toInt = 0 := toI_eq c_93 rfl (by decide)
                        have hl : lv_has _ _ ([(0, .ref h0), (1, .int (nI n5)), (3, .int iq), (4, .int (nI h5))]) := lv_sub hl [0, 1, 2, 3] rfl
                        exact join2 _ _ _ _ ⟨rfl, hP, hD, hS, hl⟩
                      · have t_93 : ¬ (iq).toInt = 0 := toI_neq c_93 rfl (by decide)
                        refine lv_aload_n hx hb dX12_list_96 rfl (lv_at hl 0 rfl) ?_
                        refine va_get (D := (dC, dI)) (ci := 12) (v := .ref (a 91)) (C := RX12) (T := TX12) (N := 163) (fs := fM (vS a vi vj)) hx hb hts iwsRX12_list_in12 hown hK hP 0 rfl rfl 144 (by decide) (hts (.fieldLink RX12 297 "OptimaWorksModel" "listedRow" "[I") (by decide +kernel)) (fun _ h9 => h9) rfl dX12_list_97 ?_
                        refine lv_bipush (v := 10) hx hb dX12_list_100 (by decide) ?_
                        refine lv_iload_n hx hb dX12_list_102 rfl (lv_at hl 1 rfl) ?_
                        refine lv_imul hx hb dX12_list_103 ?_
                        refine lv_topi (fun y4 hy4 => ?_)
                        obtain rfl : (nI (10 * n5)) = y4 := (hy4.trans (pk_mul 10 n5)).symm
                        refine lv_iload hx hb dX12_list_104 (lv_at hl 3 rfl) ?_
                        refine lv_iadd hx hb dX12_list_106 ?_
                        refine lv_topi (fun y5 hy5 => ?_)
                        obtain rfl : (nI ((10 * n5) + h5)) = y5 := (hy5.trans (nI_add (10 * n5) h5)).symm
                        refine lv_aload_n hx hb dX12_list_107 rfl (lv_at hl 0 rfl) ?_
                        refine va_get (D := (dC, dI)) (ci := 12) (v := .ref (a 90)) (C := RX12) (T := TX12) (N := 163) (fs := fM (vS a vi vj)) hx hb hts iwsRX12_list_in12 hown hK hP 0 rfl rfl 143 (by decide) (hts (.fieldLink RX12 293 "OptimaWorksModel" "rowValue" "[I") (by decide +kernel)) (fun _ h9 => h9) rfl dX12_list_108 ?_
                        refine lv_iload hx hb dX12_list_111 (lv_at hl 3 rfl) ?_
                        refine va_iald (cA := k 90) (n := 10) (f := rv) hx hb hK hP 91 90 (WR_get 90 (by decide)) (TR_get 90 (by decide)) (vp_in_nI (show h5 < 10 by omega) (by omega)) dX12_list_113 ?_
                        refine lv_topi (fun y6 hy6 => ?_)
                        obtain rfl : (rv h5) = y6 := (hy6.trans (by rw [nI_clamp (by omega)])).symm
                        refine va_iast (cA := k 91) (n := 50000) (f := x25_F91) hx hb hK hP hD hS 92 91 (WR_get 91 (by decide)) (TR_get 91 (by decide)) (vp_in_nI (show ((10 * n5) + h5) < 50000 by omega) (by omega)) dX12_list_114 (fun H locs hP hD hS => ?_)
                        have e9 : fT (fT (fT (fT (fT (fT vF 90 rv) 91 (upd x25_F91 ((nI ((10 * n5) + h5))).toNatClampNeg (rv h5))) 86 x21_F86) 87 x21_F87) 88 x21_F88) 89 x21_F89 = fT (fT (fT (fT (fT (fT (fT vF 90 rv) 91 x25_F91) 86 x21_F86) 87 x21_F87) 88 x21_F88) 89 x21_F89) 91 (upd x25_F91 ((nI ((10 * n5) + h5))).toNatClampNeg (rv h5)) := ((fT_sw _ _ _ (Nat.ne_of_beq_eq_false rfl)).trans (congrArg (fun g9 => fT g9 89 x21_F89) ((fT_sw _ _ _ (Nat.ne_of_beq_eq_false rfl)).trans (congrArg (fun g9 => fT g9 88 x21_F88) ((fT_sw _ _ _ (Nat.ne_of_beq_eq_false rfl)).trans (congrArg (fun g9 => fT g9 87 x21_F87) ((fT_sw _ _ _ (Nat.ne_of_beq_eq_false rfl)).trans (congrArg (fun g9 => fT g9 86 x21_F86) (fT_sm _ _ _ _))))))))).symm
                        have hP : va_P (dC, dI) vwCl (WR a k h0 vi vj (fT (fT (fT (fT (fT (fT vF 90 rv) 91 (upd x25_F91 ((nI ((10 * n5) + h5))).toNatClampNeg (rv h5))) 86 x21_F86) 87 x21_F87) 88 x21_F88) 89 x21_F89) vG) H := by rw [e9, ← WR_F 91 (by decide) _ rfl]; exact hP
                        have hD : va_D A (WR a k h0 vi vj (fT (fT (fT (fT (fT (fT vF 90 rv) 91 (upd x25_F91 ((nI ((10 * n5) + h5))).toNatClampNeg (rv h5))) 86 x21_F86) 87 x21_F87) 88 x21_F88) 89 x21_F89) vG) := by rw [e9, ← WR_F 91 (by decide) _ rfl]; exact hD
                        clear e9
                        refine lv_iinc (v := (nI (h5 + 1))) hx hb dX12_list_115 hl (k := 3) rfl (nI_add h5 1) (by decide) rfl (fun ls (hl : lv_has ls _ ([(4, .int (nI (h5 + 1))), (0, .ref h0), (1, .int (nI n5)), (3, .int iq)])) => ?_)
                        refine lv_goto (tgt := 83) hx hb dX12_list_118 (by decide) ?_
                        have hl : lv_has _ _ ([(0, .ref h0), (1, .int (nI n5)), (3, .int iq), (4, .int (nI (h5 + 1)))]) := lv_sub hl [1, 2, 3, 0] rfl
                        exact ih83_3 (h5 + 1) (upd x25_F91 ((nI ((10 * n5) + h5))).toNatClampNeg (rv h5)) _ _ _ (by omega) (by omega) hP hD hS hl
                  · rintro H locs ls stk ⟨rfl, hP, hD, hS, hl⟩
                    refine lv_iload_n hx hb dX12_list_121 rfl (lv_at hl 1 rfl) ?_
                    refine lv_iload_n hx hb dX12_list_122 rfl (lv_at hl 2 rfl) ?_
                    refine W.cut (pc := 131) (fun H locs ls stk => ∃ (b9 : Nat), (b9 ≤ 1) ∧  stk = [.int (nI b9), .int (nI n5)] ∧ va_P (dC, dI) vwCl (WR a k h0 vi vj (fT (fT (fT (fT (fT (fT vF 90 rv) 91 x25_F91) 86 x21_F86) 87 x21_F87) 88 x21_F88) 89 x21_F89) vG) H ∧ va_D A (WR a k h0 vi vj (fT (fT (fT (fT (fT (fT vF 90 rv) 91 x25_F91) 86 x21_F86) 87 x21_F87) 88 x21_F88) 89 x21_F89) vG) ∧ va_S A s.heap H locs ∧ lv_has ls 5 [(0, .ref h0), (1, .int (nI n5)), (3, .int iq), (4, .int (nI h5))]) (fun join3 => ?_) ?_
                    · refine lv_if_eq (tgt := 130) hx hb dX12_list_123 (by decide) (fun c_123 => ?_) (fun c_123 => ?_)
                      · have t_123 : (iq).toInt = 0 := toI_eq c_123 rfl (by decide)
                        refine lv_iconst (v := 0) hx hb dX12_list_130 (by decide) ?_
                        have hl : lv_has _ _ ([(0, .ref h0), (1, .int (nI n5)), (3, .int iq), (4, .int (nI h5))]) := lv_sub hl [0, 1, 2, 3] rfl
                        exact join3 _ _ _ _ ⟨0, by omega, rfl, hP, hD, hS, hl⟩
                      · have t_123 : ¬ (iq).toInt = 0 := toI_neq c_123 rfl (by decide)
                        refine lv_iconst (v := 1) hx hb dX12_list_126 (by decide) ?_
                        refine lv_goto (tgt := 131) hx hb dX12_list_127 (by decide) ?_
                        have hl : lv_has _ _ ([(0, .ref h0), (1, .int (nI n5)), (3, .int iq), (4, .int (nI h5))]) := lv_sub hl [0, 1, 2, 3] rfl
                        exact join3 _ _ _ _ ⟨1, by omega, rfl, hP, hD, hS, hl⟩
                    · rintro H locs ls stk ⟨b9, hb9, rfl, hP, hD, hS, hl⟩
                      refine lv_iadd hx hb dX12_list_131 ?_
                      refine lv_topi (fun y7 hy7 => ?_)
                      obtain rfl : (nI (n5 + b9)) = y7 := (hy7.trans (nI_add n5 b9)).symm
                      refine lv_istore_n hx hb dX12_list_132 rfl hl (by decide) rfl (fun ls (hl : lv_has ls _ ([(1, .int (nI (n5 + b9))), (0, .ref h0), (3, .int iq), (4, .int (nI h5))])) => ?_)
                      refine lv_iconst (v := 0) hx hb dX12_list_133 (by decide) ?_
                      refine lv_istore_n hx hb dX12_list_134 rfl hl (by decide) rfl (fun ls (hl : lv_has ls _ ([(2, .int 0), (1, .int (nI (n5 + b9))), (0, .ref h0), (3, .int iq), (4, .int (nI h5))])) => ?_)
                      refine lv_aload_n hx hb dX12_list_135 rfl (lv_at hl 2 rfl) ?_
                      refine va_get (D := (dC, dI)) (ci := 12) (v := .int (vi 128)) (C := RX12) (T := TX12) (N := 163) (fs := fM (vS a vi vj)) hx hb hts iwsRX12_list_in12 hown hK hP 0 rfl rfl 128 (by decide) (hts (.fieldLink RX12 978 "OptimaWorksModel" "holders" "I") (by decide +kernel)) (fun _ h9 => h9) rfl dX12_list_136 ?_
                      refine lv_topi (fun y8 hy8 => ?_)
                      obtain rfl : (nI hn) = y8 := (hy8.trans (hhn)).symm
                      refine lv_iconst (v := 1) hx hb dX12_list_139 (by decide) ?_
                      refine lv_isub hx hb dX12_list_140 ?_
                      refine lv_istore hx hb dX12_list_141 hl (by decide) rfl (fun ls (hl : lv_has ls _ ([(4, .int ((nI hn) - 1)), (2, .int 0), (1, .int (nI (n5 + b9))), (0, .ref h0), (3, .int iq)])) => ?_)
                      have hl : lv_has _ _ ([(0, .ref h0), (1, .int (nI (n5 + b9))), (2, .int 0), (4, .int ((nI hn) - 1))]) := lv_sub hl [3, 2, 1, 0] rfl
                      refine (fun (loop : ∀ (n9 : Nat) (mo2 : Int32) (kq : Int32) (kk1 : Nat) (rv2 : Nat → Int32) (H : Heap) (locs : List Loc) (ls : Array Slot), ((kq).toInt = (kk1 : Int) - 1) → (kk1 ≤ hn) → (∀ q, q < kk1 → rv2 q = rv q) → (RvO rv2 hn) → (mo2 = 0 ∨ odo (dgR rv) (fun _ => 18) hn < odo (dgR rv2) (fun _ => 18) hn) →  (kk1 < n9) → va_P (dC, dI) vwCl (WR a k h0 vi vj (fT (fT (fT (fT (fT (fT vF 90 rv2) 91 x25_F91) 86 x21_F86) 87 x21_F87) 88 x21_F88) 89 x21_F89) vG) H → va_D A (WR a k h0 vi vj (fT (fT (fT (fT (fT (fT vF 90 rv2) 91 x25_F91) 86 x21_F86) 87 x21_F87) 88 x21_F88) 89 x21_F89) vG) → va_S A s.heap H locs → lv_has ls 5 [(0, .ref h0), (1, .int (nI (n5 + b9))), (2, .int mo2), (4, .int kq)] → W p l e _ s m _ below meth c H locs 0 0 _ (F0 m 143 ls [])) => loop (hn + 1) 0 ((nI hn) - 1) hn rv _ _ _ (by exact pk_sub_toInt (a := hn) (b := 1) (by omega) (by omega)) (by omega) (fun q _ => rfl) (hRv) (Or.inl rfl) (by omega) hP hD hS hl) ?_
                      intro n9
                      induction n9 with
                      | zero => intro mo2 kq kk1 rv2 H locs ls hkq hkn hpre hRv2 hmo hf9; exact False.elim (by omega)
                      | succ n9 ih143_4 =>
                        intro mo2 kq kk1 rv2 H locs ls hkq hkn hpre hRv2 hmo hf143_4 hP hD hS hl
                        refine lv_iload hx hb dX12_list_143 (lv_at hl 3 rfl) ?_
                        refine lv_if_lt (tgt := 217) hx hb dX12_list_145 (by decide) (fun c_145 => ?_) (fun c_145 => ?_)
                        · have t_145 : (kq).toInt < 0 := toI_lt c_145 rfl (by decide)
                          refine lv_goto (tgt := 38) hx hb dX12_list_217 (by decide) ?_
                          have hl : lv_has _ _ ([(0, .ref h0), (1, .int (nI (n5 + b9))), (2, .int mo2)]) := lv_sub hl [0, 1, 2] rfl
                          exact ih38_1 mo2 (n5 + b9) rv2 x25_F91 x21_F86 x21_F87 x21_F88 x21_F89 _ _ _ (hRv2) (by omega) (by (have h8 := odo_lt (f := dgR rv) (b := fun _ => 18) hn (fun q hq => hRv.dg hq)); (have h9 := hfx.resolve_left (fun h => c_39 h.1)); rcases hmo with h7 | h7; (exact Or.inl ⟨h7, by omega⟩); (exact Or.inr (by omega))) hP hD hS hl
                        · have t_145 : ¬ (kq).toInt < 0 := toI_nlt c_145 rfl (by decide)
                          refine lv_iload_n hx hb dX12_list_148 rfl (lv_at hl 2 rfl) ?_
                          refine lv_if_ne (tgt := 217) hx hb dX12_list_149 (by decide) (fun c_149 => ?_) (fun c_149 => ?_)
                          · have t_149 : (mo2).toInt ≠ 0 := toI_ne c_149 rfl (by decide)
                            refine lv_goto (tgt := 38) hx hb dX12_list_217 (by decide) ?_
                            have hl : lv_has _ _ ([(0, .ref h0), (1, .int (nI (n5 + b9))), (2, .int mo2)]) := lv_sub hl [0, 1, 2] rfl
                            exact ih38_1 mo2 (n5 + b9) rv2 x25_F91 x21_F86 x21_F87 x21_F88 x21_F89 _ _ _ (hRv2) (by omega) (by (have h8 := odo_lt (f := dgR rv) (b := fun _ => 18) hn (fun q hq => hRv.dg hq)); (have h9 := hfx.resolve_left (fun h => c_39 h.1)); rcases hmo with h7 | h7; (exact Or.inl ⟨h7, by omega⟩); (exact Or.inr (by omega))) hP hD hS hl
                          · have t_149 : (mo2).toInt = 0 := toI_nne c_149 rfl (by decide)
                            obtain ⟨kk, h_kk, rfl⟩ := of_toInt (x := kq) (k := 10) (by omega) (by omega)
                            have e_kk : (nI kk).toInt = (kk : Int) := nI_toInt (by omega)
                            refine lv_aload_n hx hb dX12_list_152 rfl (lv_at hl 0 rfl) ?_
                            refine va_get (D := (dC, dI)) (ci := 12) (v := .ref (a 90)) (C := RX12) (T := TX12) (N := 163) (fs := fM (vS a vi vj)) hx hb hts iwsRX12_list_in12 hown hK hP 0 rfl rfl 143 (by decide) (hts (.fieldLink RX12 293 "OptimaWorksModel" "rowValue" "[I") (by decide +kernel)) (fun _ h9 => h9) rfl dX12_list_153 ?_
                            refine lv_iload hx hb dX12_list_156 (lv_at hl 3 rfl) ?_
                            refine lv_aload_n hx hb dX12_list_158 rfl (lv_at hl 0 rfl) ?_
                            refine lv_iload hx hb dX12_list_159 (lv_at hl 3 rfl) ?_
                            have hFc := allFree hD hS hA
                            refine va_calli (va_runV (As := [.int (nI kk)]) (rest := [.int (nI kk), .ref (a 90)]) ⟨hx, hb, hml, hown, hts⟩ (r_X12_above l dC dI a k h0 vi vj (fT (fT (fT (fT (fT (fT vF 90 rv2) 91 x25_F91) 86 x21_F86) 87 x21_F87) 88 x21_F88) 89 x21_F89) vG kk (by first | assumption | decide | omega | rfl) (hRv2 kk (by omega)) H.size) (cwV 1 hts gwsRX12_list_1 rfl rfl rfl hd_yX12_above_RX12 (by decide +kernel)) (fz_pre (va_recv hK hP (ci := 12) (q0 := 0) rfl rfl) hP hK hD) rfl rfl hl.1 rfl (lv_room (Nat.le_of_ble_eq_true rfl)) dX12_list_161 (by decide +kernel)) hS (fun q _ h => hFc q h) hFc (fun r161 u t9_ H locs ht hvm hw9 hB9 hz1 hk1 hS => ?_)
                            have hP : va_P (dC, dI) vwCl (WR a k h0 vi vj (fT (fT (fT (fT (fT (fT vF 90 rv2) 91 x25_F91) 86 x21_F86) 87 x21_F87) 88 x21_F88) 89 x21_F89) vG) H := fz_P ht hB9.1
                            have hD : va_D A (WR a k h0 vi vj (fT (fT (fT (fT (fT (fT vF 90 rv2) 91 x25_F91) 86 x21_F86) 87 x21_F87) 88 x21_F88) 89 x21_F89) vG) := hB9.2.weaken (fun _ q _ h => hFc q.1 h)
                            have f161_0 := hw9
                            try dsimp only at f161_0
                            have f161_0 : (rv2 kk).toInt < (r161).toInt ∧ (r161).toInt ≤ 17 ∧ ((rv2 kk).toInt < 16 → (r161).toInt ≤ 16) := f161_0
                            have hr2 := hRv2 kk (by omega)
                            refine va_iast (cA := k 90) (n := 10) (f := rv2) hx hb hK hP hD hS 91 90 (WR_get 90 (by decide)) (TR_get 90 (by decide)) (vp_in_nI (show kk < 10 by omega) (by omega)) dX12_list_164 (fun H locs hP hD hS => ?_)
                            have e9 : fT (fT (fT (fT (fT (fT vF 90 (upd rv2 ((nI kk)).toNatClampNeg r161)) 91 x25_F91) 86 x21_F86) 87 x21_F87) 88 x21_F88) 89 x21_F89 = fT (fT (fT (fT (fT (fT (fT vF 90 rv2) 91 x25_F91) 86 x21_F86) 87 x21_F87) 88 x21_F88) 89 x21_F89) 90 (upd rv2 ((nI kk)).toNatClampNeg r161) := ((fT_sw _ _ _ (Nat.ne_of_beq_eq_false rfl)).trans (congrArg (fun g9 => fT g9 89 x21_F89) ((fT_sw _ _ _ (Nat.ne_of_beq_eq_false rfl)).trans (congrArg (fun g9 => fT g9 88 x21_F88) ((fT_sw _ _ _ (Nat.ne_of_beq_eq_false rfl)).trans (congrArg (fun g9 => fT g9 87 x21_F87) ((fT_sw _ _ _ (Nat.ne_of_beq_eq_false rfl)).trans (congrArg (fun g9 => fT g9 86 x21_F86) ((fT_sw _ _ _ (Nat.ne_of_beq_eq_false rfl)).trans (congrArg (fun g9 => fT g9 91 x25_F91) (fT_sm _ _ _ _))))))))))).symm
                            have hP : va_P (dC, dI) vwCl (WR a k h0 vi vj (fT (fT (fT (fT (fT (fT vF 90 (upd rv2 ((nI kk)).toNatClampNeg r161)) 91 x25_F91) 86 x21_F86) 87 x21_F87) 88 x21_F88) 89 x21_F89) vG) H := by rw [e9, ← WR_F 90 (by decide) _ rfl]; exact hP
                            have hD : va_D A (WR a k h0 vi vj (fT (fT (fT (fT (fT (fT vF 90 (upd rv2 ((nI kk)).toNatClampNeg r161)) 91 x25_F91) 86 x21_F86) 87 x21_F87) 88 x21_F88) 89 x21_F89) vG) := by rw [e9, ← WR_F 90 (by decide) _ rfl]; exact hD
                            clear e9
                            refine lv_aload_n hx hb dX12_list_165 rfl (lv_at hl 0 rfl) ?_
                            refine va_get (D := (dC, dI)) (ci := 12) (v := .ref (a 90)) (C := RX12) (T := TX12) (N := 163) (fs := fM (vS a vi vj)) hx hb hts iwsRX12_list_in12 hown hK hP 0 rfl rfl 143 (by decide) (hts (.fieldLink RX12 293 "OptimaWorksModel" "rowValue" "[I") (by decide +kernel)) (fun _ h9 => h9) rfl dX12_list_166 ?_
                            refine lv_iload hx hb dX12_list_169 (lv_at hl 3 rfl) ?_
                            refine va_iald (cA := k 90) (n := 10) (f := (upd rv2 ((nI kk)).toNatClampNeg r161)) hx hb hK hP 91 90 (WR_get 90 (by decide)) (TR_get 90 (by decide)) (vp_in_nI (show kk < 10 by omega) (by omega)) dX12_list_171 ?_
                            refine lv_topi (fun y9 hy9 => ?_)
                            obtain rfl : ((upd rv2 ((nI kk)).toNatClampNeg r161) kk) = y9 := (hy9.trans (by rw [nI_clamp (by omega)])).symm
                            refine lv_topi (fun y10 hy10 => ?_)
                            obtain rfl : r161 = y10 := (hy10.trans (by rw [upd_at (by omega), if_pos rfl])).symm
                            refine lv_bipush (v := 16) hx hb dX12_list_172 (by decide) ?_
                            refine lv_icmp_ge (tgt := 181) hx hb dX12_list_174 (by decide) (fun c_174 => ?_) (fun c_174 => ?_)
                            · have t_174 : (r161).toInt ≥ 16 := toI_ge c_174 rfl (by decide)
                              refine lv_iconst (v := 0) hx hb dX12_list_181 (by decide) ?_
                              refine lv_istore_n hx hb dX12_list_182 rfl hl (by decide) rfl (fun ls (hl : lv_has ls _ ([(2, .int 0), (0, .ref h0), (1, .int (nI (n5 + b9))), (4, .int (nI kk))])) => ?_)
                              refine lv_iload_n hx hb dX12_list_183 rfl (lv_at hl 0 rfl) ?_
                              refine lv_if_eq (tgt := 190) hx hb dX12_list_184 (by decide) (fun _ => ?_) (fun c9 => absurd (by decide) c9)
                              refine lv_aload_n hx hb dX12_list_190 rfl (lv_at hl 1 rfl) ?_
                              refine va_get (D := (dC, dI)) (ci := 12) (v := .ref (a 90)) (C := RX12) (T := TX12) (N := 163) (fs := fM (vS a vi vj)) hx hb hts iwsRX12_list_in12 hown hK hP 0 rfl rfl 143 (by decide) (hts (.fieldLink RX12 293 "OptimaWorksModel" "rowValue" "[I") (by decide +kernel)) (fun _ h9 => h9) rfl dX12_list_191 ?_
                              refine lv_iload hx hb dX12_list_194 (lv_at hl 3 rfl) ?_
                              refine lv_iconst (v := (-1)) hx hb dX12_list_196 (by decide) ?_
                              refine va_iast (cA := k 90) (n := 10) (f := (upd rv2 ((nI kk)).toNatClampNeg r161)) hx hb hK hP hD hS 91 90 (WR_get 90 (by decide)) (TR_get 90 (by decide)) (vp_in_nI (show kk < 10 by omega) (by omega)) dX12_list_197 (fun H locs hP hD hS => ?_)
                              have e9 : fT (fT (fT (fT (fT (fT vF 90 (upd (upd rv2 ((nI kk)).toNatClampNeg r161) ((nI kk)).toNatClampNeg (-1))) 91 x25_F91) 86 x21_F86) 87 x21_F87) 88 x21_F88) 89 x21_F89 = fT (fT (fT (fT (fT (fT (fT vF 90 (upd rv2 ((nI kk)).toNatClampNeg r161)) 91 x25_F91) 86 x21_F86) 87 x21_F87) 88 x21_F88) 89 x21_F89) 90 (upd (upd rv2 ((nI kk)).toNatClampNeg r161) ((nI kk)).toNatClampNeg (-1)) := ((fT_sw _ _ _ (Nat.ne_of_beq_eq_false rfl)).trans (congrArg (fun g9 => fT g9 89 x21_F89) ((fT_sw _ _ _ (Nat.ne_of_beq_eq_false rfl)).trans (congrArg (fun g9 => fT g9 88 x21_F88) ((fT_sw _ _ _ (Nat.ne_of_beq_eq_false rfl)).trans (congrArg (fun g9 => fT g9 87 x21_F87) ((fT_sw _ _ _ (Nat.ne_of_beq_eq_false rfl)).trans (congrArg (fun g9 => fT g9 86 x21_F86) ((fT_sw _ _ _ (Nat.ne_of_beq_eq_false rfl)).trans (congrArg (fun g9 => fT g9 91 x25_F91) (fT_sm _ _ _ _))))))))))).symm
                              have hP : va_P (dC, dI) vwCl (WR a k h0 vi vj (fT (fT (fT (fT (fT (fT vF 90 (upd (upd rv2 ((nI kk)).toNatClampNeg r161) ((nI kk)).toNatClampNeg (-1))) 91 x25_F91) 86 x21_F86) 87 x21_F87) 88 x21_F88) 89 x21_F89) vG) H := by rw [e9, ← WR_F 90 (by decide) _ rfl]; exact hP
                              have hD : va_D A (WR a k h0 vi vj (fT (fT (fT (fT (fT (fT vF 90 (upd (upd rv2 ((nI kk)).toNatClampNeg r161) ((nI kk)).toNatClampNeg (-1))) 91 x25_F91) 86 x21_F86) 87 x21_F87) 88 x21_F88) 89 x21_F89) vG) := by rw [e9, ← WR_F 90 (by decide) _ rfl]; exact hD
                              clear e9
                              refine lv_aload_n hx hb dX12_list_198 rfl (lv_at hl 1 rfl) ?_
                              refine va_get (D := (dC, dI)) (ci := 12) (v := .ref (a 90)) (C := RX12) (T := TX12) (N := 163) (fs := fM (vS a vi vj)) hx hb hts iwsRX12_list_in12 hown hK hP 0 rfl rfl 143 (by decide) (hts (.fieldLink RX12 293 "OptimaWorksModel" "rowValue" "[I") (by decide +kernel)) (fun _ h9 => h9) rfl dX12_list_199 ?_
                              refine lv_iload hx hb dX12_list_202 (lv_at hl 3 rfl) ?_
                              refine lv_aload_n hx hb dX12_list_204 rfl (lv_at hl 1 rfl) ?_
                              refine lv_iload hx hb dX12_list_205 (lv_at hl 3 rfl) ?_
                              have hFc := allFree hD hS hA
                              refine va_calli (va_runV (As := [.int (nI kk)]) (rest := [.int (nI kk), .ref (a 90)]) ⟨hx, hb, hml, hown, hts⟩ (r_X12_above l dC dI a k h0 vi vj (fT (fT (fT (fT (fT (fT vF 90 (upd (upd rv2 ((nI kk)).toNatClampNeg r161) ((nI kk)).toNatClampNeg (-1))) 91 x25_F91) 86 x21_F86) 87 x21_F87) 88 x21_F88) 89 x21_F89) vG kk (by first | assumption | decide | omega | rfl) (by show -1 ≤ (upd (upd rv2 (nI kk).toNatClampNeg r161) (nI kk).toNatClampNeg (-1) kk).toInt ∧ (upd (upd rv2 (nI kk).toNatClampNeg r161) (nI kk).toNatClampNeg (-1) kk).toInt ≤ 16; rw [upd_at (by omega), if_pos rfl]; decide) H.size) (cwV 1 hts gwsRX12_list_1 rfl rfl rfl hd_yX12_above_RX12 (by decide +kernel)) (fz_pre (va_recv hK hP (ci := 12) (q0 := 0) rfl rfl) hP hK hD) rfl rfl hl.1 rfl (lv_room (Nat.le_of_ble_eq_true rfl)) dX12_list_207 (by decide +kernel)) hS (fun q _ h => hFc q h) hFc (fun r207 u t9_ H locs ht hvm hw9 hB9 hz1 hk1 hS => ?_)
                              have hP : va_P (dC, dI) vwCl (WR a k h0 vi vj (fT (fT (fT (fT (fT (fT vF 90 (upd (upd rv2 ((nI kk)).toNatClampNeg r161) ((nI kk)).toNatClampNeg (-1))) 91 x25_F91) 86 x21_F86) 87 x21_F87) 88 x21_F88) 89 x21_F89) vG) H := fz_P ht hB9.1
                              have hD : va_D A (WR a k h0 vi vj (fT (fT (fT (fT (fT (fT vF 90 (upd (upd rv2 ((nI kk)).toNatClampNeg r161) ((nI kk)).toNatClampNeg (-1))) 91 x25_F91) 86 x21_F86) 87 x21_F87) 88 x21_F88) 89 x21_F89) vG) := hB9.2.weaken (fun _ q _ h => hFc q.1 h)
                              have f207_0 := hw9
                              try dsimp only at f207_0
                              have f207_0 : ((upd (upd rv2 ((nI kk)).toNatClampNeg r161) ((nI kk)).toNatClampNeg (-1)) kk).toInt < (r207).toInt ∧ (r207).toInt ≤ 17 ∧ (((upd (upd rv2 ((nI kk)).toNatClampNeg r161) ((nI kk)).toNatClampNeg (-1)) kk).toInt < 16 → (r207).toInt ≤ 16) := f207_0
                              refine va_iast (cA := k 90) (n := 10) (f := (upd (upd rv2 ((nI kk)).toNatClampNeg r161) ((nI kk)).toNatClampNeg (-1))) hx hb hK hP hD hS 91 90 (WR_get 90 (by decide)) (TR_get 90 (by decide)) (vp_in_nI (show kk < 10 by omega) (by omega)) dX12_list_210 (fun H locs hP hD hS => ?_)
                              have e9 : fT (fT (fT (fT (fT (fT vF 90 (upd (upd (upd rv2 ((nI kk)).toNatClampNeg r161) ((nI kk)).toNatClampNeg (-1)) ((nI kk)).toNatClampNeg r207)) 91 x25_F91) 86 x21_F86) 87 x21_F87) 88 x21_F88) 89 x21_F89 = fT (fT (fT (fT (fT (fT (fT vF 90 (upd (upd rv2 ((nI kk)).toNatClampNeg r161) ((nI kk)).toNatClampNeg (-1))) 91 x25_F91) 86 x21_F86) 87 x21_F87) 88 x21_F88) 89 x21_F89) 90 (upd (upd (upd rv2 ((nI kk)).toNatClampNeg r161) ((nI kk)).toNatClampNeg (-1)) ((nI kk)).toNatClampNeg r207) := ((fT_sw _ _ _ (Nat.ne_of_beq_eq_false rfl)).trans (congrArg (fun g9 => fT g9 89 x21_F89) ((fT_sw _ _ _ (Nat.ne_of_beq_eq_false rfl)).trans (congrArg (fun g9 => fT g9 88 x21_F88) ((fT_sw _ _ _ (Nat.ne_of_beq_eq_false rfl)).trans (congrArg (fun g9 => fT g9 87 x21_F87) ((fT_sw _ _ _ (Nat.ne_of_beq_eq_false rfl)).trans (congrArg (fun g9 => fT g9 86 x21_F86) ((fT_sw _ _ _ (Nat.ne_of_beq_eq_false rfl)).trans (congrArg (fun g9 => fT g9 91 x25_F91) (fT_sm _ _ _ _))))))))))).symm
                              have hP : va_P (dC, dI) vwCl (WR a k h0 vi vj (fT (fT (fT (fT (fT (fT vF 90 (upd (upd (upd rv2 ((nI kk)).toNatClampNeg r161) ((nI kk)).toNatClampNeg (-1)) ((nI kk)).toNatClampNeg r207)) 91 x25_F91) 86 x21_F86) 87 x21_F87) 88 x21_F88) 89 x21_F89) vG) H := by rw [e9, ← WR_F 90 (by decide) _ rfl]; exact hP
                              have hD : va_D A (WR a k h0 vi vj (fT (fT (fT (fT (fT (fT vF 90 (upd (upd (upd rv2 ((nI kk)).toNatClampNeg r161) ((nI kk)).toNatClampNeg (-1)) ((nI kk)).toNatClampNeg r207)) 91 x25_F91) 86 x21_F86) 87 x21_F87) 88 x21_F88) 89 x21_F89) vG) := by rw [e9, ← WR_F 90 (by decide) _ rfl]; exact hD
                              clear e9
                              refine lv_iinc (v := ((nI kk) + (-1))) hx hb dX12_list_211 hl (k := 3) rfl rfl (by decide) rfl (fun ls (hl : lv_has ls _ ([(4, .int ((nI kk) + (-1))), (2, .int 0), (0, .ref h0), (1, .int (nI (n5 + b9)))])) => ?_)
                              refine lv_goto (tgt := 143) hx hb dX12_list_214 (by decide) ?_
                              have hl : lv_has _ _ ([(0, .ref h0), (1, .int (nI (n5 + b9))), (2, .int 0), (4, .int ((nI kk) + (-1)))]) := lv_sub hl [2, 3, 1, 0] rfl
                              exact ih143_4 0 ((nI kk) + (-1)) (kk1 - 1) (upd (upd (upd rv2 ((nI kk)).toNatClampNeg r161) ((nI kk)).toNatClampNeg (-1)) ((nI kk)).toNatClampNeg r207) _ _ _ (by rw [m1T (by omega)]; omega) (by omega) (fun q hq => by rw [upd_at (by omega), if_neg (by omega), upd_at (by omega), if_neg (by omega), upd_at (by omega), if_neg (by omega)]; exact hpre q (by omega)) (hRv2.set (k := kk) (fun q hq => by rw [upd_at (by omega), if_neg hq, upd_at (by omega), if_neg hq, upd_at (by omega), if_neg hq]) (by rw [upd_at (by omega), if_pos rfl]; (have h9 : (upd (upd rv2 (nI kk).toNatClampNeg r161) (nI kk).toNatClampNeg (-1) kk) = -1 := by rw [upd_at (by omega), if_pos rfl]); (have f9 := f207_0); rw [h9] at f9; (have h8 : ((-1 : Int32)).toInt = -1 := by decide); omega)) (Or.inl rfl) (by omega) hP hD hS hl
                            · have t_174 : ¬ (r161).toInt ≥ 16 := toI_nge c_174 rfl (by decide)
                              refine lv_iconst (v := 1) hx hb dX12_list_177 (by decide) ?_
                              refine lv_goto (tgt := 182) hx hb dX12_list_178 (by decide) ?_
                              refine lv_istore_n hx hb dX12_list_182 rfl hl (by decide) rfl (fun ls (hl : lv_has ls _ ([(2, .int 1), (0, .ref h0), (1, .int (nI (n5 + b9))), (4, .int (nI kk))])) => ?_)
                              have hup := odo_up (f := dgR rv) (g := dgR (upd rv2 (nI kk).toNatClampNeg r161)) (b := fun _ => 18) (r := kk) (fun q hq => by unfold dgR; rw [upd_at (by omega), if_neg (by omega), hpre q (by omega)]) (by unfold dgR; rw [upd_at (by omega), if_pos rfl, ← hpre kk (by omega)]; omega) hn (by omega) (fun q h1 h2 => hRv.dg h2)
                              refine lv_iload_n hx hb dX12_list_183 rfl (lv_at hl 0 rfl) ?_
                              refine lv_if_eq (tgt := 190) hx hb dX12_list_184 (by decide) (fun c9 => absurd c9 (by decide)) (fun _ => ?_)
                              refine lv_goto (tgt := 211) hx hb dX12_list_187 (by decide) ?_
                              refine lv_iinc (v := ((nI kk) + (-1))) hx hb dX12_list_211 hl (k := 3) rfl rfl (by decide) rfl (fun ls (hl : lv_has ls _ ([(4, .int ((nI kk) + (-1))), (2, .int 1), (0, .ref h0), (1, .int (nI (n5 + b9)))])) => ?_)
                              refine lv_goto (tgt := 143) hx hb dX12_list_214 (by decide) ?_
                              have hl : lv_has _ _ ([(0, .ref h0), (1, .int (nI (n5 + b9))), (2, .int 1), (4, .int ((nI kk) + (-1)))]) := lv_sub hl [2, 3, 1, 0] rfl
                              exact ih143_4 1 ((nI kk) + (-1)) (kk1 - 1) (upd rv2 ((nI kk)).toNatClampNeg r161) _ _ _ (by rw [m1T (by omega)]; omega) (by omega) (fun q hq => by rw [upd_at (by omega), if_neg (by omega)]; exact hpre q (by omega)) (hRv2.set (k := kk) (fun q hq => by rw [upd_at (by omega), if_neg hq]) (by rw [upd_at (by omega), if_pos rfl]; omega)) (Or.inr hup) (by omega) hP hD hS hl
    · have t_7 : ¬ ((h1 : Nat) : Int) ≥ ((hn : Nat) : Int) := toI_nge c_7 (nI_toInt (by omega)) (nI_toInt (by omega))
      refine lv_aload_n hx hb dX12_list_10 rfl (lv_at hl 0 rfl) ?_
      refine va_get (D := (dC, dI)) (ci := 12) (v := .ref (a 90)) (C := RX12) (T := TX12) (N := 163) (fs := fM (vS a vi vj)) hx hb hts iwsRX12_list_in12 hown hK hP 0 rfl rfl 143 (by decide) (hts (.fieldLink RX12 293 "OptimaWorksModel" "rowValue" "[I") (by decide +kernel)) (fun _ h9 => h9) rfl dX12_list_11 ?_
      refine lv_iload_n hx hb dX12_list_14 rfl (lv_at hl 1 rfl) ?_
      refine lv_iconst (v := (-1)) hx hb dX12_list_15 (by decide) ?_
      refine va_iast (cA := k 90) (n := 10) (f := g0) hx hb hK hP hD hS 91 90 (WR_get 90 (by decide)) (TR_get 90 (by decide)) (vp_in_nI (show h1 < 10 by omega) (by omega)) dX12_list_16 (fun H locs hP hD hS => ?_)
      have e9 : fT vF 90 (upd g0 ((nI h1)).toNatClampNeg (-1)) = fT (fT vF 90 g0) 90 (upd g0 ((nI h1)).toNatClampNeg (-1)) := (fT_sm _ _ _ _).symm
      have hP : va_P (dC, dI) vwCl (WR a k h0 vi vj (fT vF 90 (upd g0 ((nI h1)).toNatClampNeg (-1))) vG) H := by rw [e9, ← WR_F 90 (by decide) _ rfl]; exact hP
      have hD : va_D A (WR a k h0 vi vj (fT vF 90 (upd g0 ((nI h1)).toNatClampNeg (-1))) vG) := by rw [e9, ← WR_F 90 (by decide) _ rfl]; exact hD
      clear e9
      refine lv_aload_n hx hb dX12_list_17 rfl (lv_at hl 0 rfl) ?_
      refine va_get (D := (dC, dI)) (ci := 12) (v := .ref (a 90)) (C := RX12) (T := TX12) (N := 163) (fs := fM (vS a vi vj)) hx hb hts iwsRX12_list_in12 hown hK hP 0 rfl rfl 143 (by decide) (hts (.fieldLink RX12 293 "OptimaWorksModel" "rowValue" "[I") (by decide +kernel)) (fun _ h9 => h9) rfl dX12_list_18 ?_
      refine lv_iload_n hx hb dX12_list_21 rfl (lv_at hl 1 rfl) ?_
      refine lv_aload_n hx hb dX12_list_22 rfl (lv_at hl 0 rfl) ?_
      refine lv_iload_n hx hb dX12_list_23 rfl (lv_at hl 1 rfl) ?_
      have hFc := allFree hD hS hA
      refine va_calli (va_runV (As := [.int (nI h1)]) (rest := [.int (nI h1), .ref (a 90)]) ⟨hx, hb, hml, hown, hts⟩ (r_X12_above l dC dI a k h0 vi vj (fT vF 90 (upd g0 ((nI h1)).toNatClampNeg (-1))) vG h1 (by first | assumption | decide | omega | rfl) (by show -1 ≤ (upd g0 (nI h1).toNatClampNeg (-1) h1).toInt ∧ (upd g0 (nI h1).toNatClampNeg (-1) h1).toInt ≤ 16; rw [upd_at (by omega), if_pos rfl]; decide) H.size) (cwV 1 hts gwsRX12_list_1 rfl rfl rfl hd_yX12_above_RX12 (by decide +kernel)) (fz_pre (va_recv hK hP (ci := 12) (q0 := 0) rfl rfl) hP hK hD) rfl rfl hl.1 rfl (lv_room (Nat.le_of_ble_eq_true rfl)) dX12_list_24 (by decide +kernel)) hS (fun q _ h => hFc q h) hFc (fun r24 u t9_ H locs ht hvm hw9 hB9 hz1 hk1 hS => ?_)
      have hP : va_P (dC, dI) vwCl (WR a k h0 vi vj (fT vF 90 (upd g0 ((nI h1)).toNatClampNeg (-1))) vG) H := fz_P ht hB9.1
      have hD : va_D A (WR a k h0 vi vj (fT vF 90 (upd g0 ((nI h1)).toNatClampNeg (-1))) vG) := hB9.2.weaken (fun _ q _ h => hFc q.1 h)
      have f24_0 := hw9
      try dsimp only at f24_0
      have f24_0 : ((upd g0 ((nI h1)).toNatClampNeg (-1)) h1).toInt < (r24).toInt ∧ (r24).toInt ≤ 17 ∧ (((upd g0 ((nI h1)).toNatClampNeg (-1)) h1).toInt < 16 → (r24).toInt ≤ 16) := f24_0
      refine va_iast (cA := k 90) (n := 10) (f := (upd g0 ((nI h1)).toNatClampNeg (-1))) hx hb hK hP hD hS 91 90 (WR_get 90 (by decide)) (TR_get 90 (by decide)) (vp_in_nI (show h1 < 10 by omega) (by omega)) dX12_list_27 (fun H locs hP hD hS => ?_)
      have e9 : fT vF 90 (upd (upd g0 ((nI h1)).toNatClampNeg (-1)) ((nI h1)).toNatClampNeg r24) = fT (fT vF 90 (upd g0 ((nI h1)).toNatClampNeg (-1))) 90 (upd (upd g0 ((nI h1)).toNatClampNeg (-1)) ((nI h1)).toNatClampNeg r24) := (fT_sm _ _ _ _).symm
      have hP : va_P (dC, dI) vwCl (WR a k h0 vi vj (fT vF 90 (upd (upd g0 ((nI h1)).toNatClampNeg (-1)) ((nI h1)).toNatClampNeg r24)) vG) H := by rw [e9, ← WR_F 90 (by decide) _ rfl]; exact hP
      have hD : va_D A (WR a k h0 vi vj (fT vF 90 (upd (upd g0 ((nI h1)).toNatClampNeg (-1)) ((nI h1)).toNatClampNeg r24)) vG) := by rw [e9, ← WR_F 90 (by decide) _ rfl]; exact hD
      clear e9
      refine lv_iinc (v := (nI (h1 + 1))) hx hb dX12_list_28 hl (k := 1) rfl (nI_add h1 1) (by decide) rfl (fun ls (hl : lv_has ls _ ([(1, .int (nI (h1 + 1))), (0, .ref h0)])) => ?_)
      refine lv_goto (tgt := 2) hx hb dX12_list_31 (by decide) ?_
      have hl : lv_has _ _ ([(0, .ref h0), (1, .int (nI (h1 + 1)))]) := lv_sub hl [1, 0] rfl
      exact ih2 (h1 + 1) (upd (upd g0 ((nI h1)).toNatClampNeg (-1)) ((nI h1)).toNatClampNeg r24) _ _ _ (by omega) (fun h hh => by rw [upd_at (by omega)]; by_cases e9 : h = h1; (rw [if_pos e9]; (have h9 : (upd g0 (nI h1).toNatClampNeg (-1) h1) = -1 := by rw [upd_at (by omega), if_pos rfl]); (have f9 := f24_0); rw [h9] at f9; (have h8 : ((-1 : Int32)).toInt = -1 := by decide); omega); (rw [if_neg e9, upd_at (by omega), if_neg e9]; exact hz h (by omega))) (by omega) hP hD hS hl
theorem dX12_listing_0 : decode cX12_listing 0 = .ok (.aload_n 0, 1) := dk_42 (by decide +kernel)
theorem dX12_listing_1 : decode cX12_listing 1 = .ok (.iconst 0, 1) := dk_3 (by decide +kernel)
theorem dX12_listing_2 : decode cX12_listing 2 = .ok (.putfield 348, 3) := dk_181 (by decide +kernel)
theorem dX12_listing_5 : decode cX12_listing 5 = .ok (.lconst 1, 1) := dk_10 (by decide +kernel)
theorem dX12_listing_6 : decode cX12_listing 6 = .ok (.lstore_n 1, 1) := dk_64 (by decide +kernel)
theorem dX12_listing_7 : decode cX12_listing 7 = .ok (.iconst 0, 1) := dk_3 (by decide +kernel)
theorem dX12_listing_8 : decode cX12_listing 8 = .ok (.istore_n 3, 1) := dk_62 (by decide +kernel)
theorem dX12_listing_9 : decode cX12_listing 9 = .ok (.iload_n 3, 1) := dk_29 (by decide +kernel)
theorem dX12_listing_10 : decode cX12_listing 10 = .ok (.aload_n 0, 1) := dk_42 (by decide +kernel)
theorem dX12_listing_11 : decode cX12_listing 11 = .ok (.getfield 978, 3) := dk_180 (by decide +kernel)
theorem dX12_listing_14 : decode cX12_listing 14 = .ok (.if_icmp .ge 22, 3) := dk_162 (by decide +kernel)
theorem dX12_listing_17 : decode cX12_listing 17 = .ok (.lload_n 1, 1) := dk_31 (by decide +kernel)
theorem dX12_listing_18 : decode cX12_listing 18 = .ok (.aload_n 0, 1) := dk_42 (by decide +kernel)
theorem dX12_listing_19 : decode cX12_listing 19 = .ok (.getfield 257, 3) := dk_180 (by decide +kernel)
theorem dX12_listing_22 : decode cX12_listing 22 = .ok (.iload_n 3, 1) := dk_29 (by decide +kernel)
theorem dX12_listing_23 : decode cX12_listing 23 = .ok (.iaload, 1) := dk_46 (by decide +kernel)
theorem dX12_listing_24 : decode cX12_listing 24 = .ok (.invokestatic 1040, 3) := dk_184 (by decide +kernel)
theorem dX12_listing_27 : decode cX12_listing 27 = .ok (.i2l, 1) := dk_133 (by decide +kernel)
theorem dX12_listing_28 : decode cX12_listing 28 = .ok (.lmul, 1) := dk_105 (by decide +kernel)
theorem dX12_listing_29 : decode cX12_listing 29 = .ok (.lstore_n 1, 1) := dk_64 (by decide +kernel)
theorem dX12_listing_30 : decode cX12_listing 30 = .ok (.iinc 3 1, 3) := dk_132 (by decide +kernel)
theorem dX12_listing_33 : decode cX12_listing 33 = .ok (.goto (-24), 3) := dk_167 (by decide +kernel)
theorem dX12_listing_36 : decode cX12_listing 36 = .ok (.lload_n 1, 1) := dk_31 (by decide +kernel)
theorem dX12_listing_37 : decode cX12_listing 37 = .ok (.ldc2_w 1043, 3) := dk_20 (by decide +kernel)
theorem dX12_listing_40 : decode cX12_listing 40 = .ok (.lcmp, 1) := dk_148 (by decide +kernel)
theorem dX12_listing_41 : decode cX12_listing 41 = .ok (.ifCond .le 5, 3) := dk_158 (by decide +kernel)
theorem dX12_listing_44 : decode cX12_listing 44 = .ok (.iconst (-1), 1) := dk_2 (by decide +kernel)
theorem dX12_listing_45 : decode cX12_listing 45 = .ok (.ireturn, 1) := dk_172 (by decide +kernel)
theorem dX12_listing_46 : decode cX12_listing 46 = .ok (.aload_n 0, 1) := dk_42 (by decide +kernel)
theorem dX12_listing_47 : decode cX12_listing 47 = .ok (.getfield 300, 3) := dk_180 (by decide +kernel)
theorem dX12_listing_50 : decode cX12_listing 50 = .ok (.iconst (-1), 1) := dk_2 (by decide +kernel)
theorem dX12_listing_51 : decode cX12_listing 51 = .ok (.if_icmp .ne 11, 3) := dk_160 (by decide +kernel)
theorem dX12_listing_54 : decode cX12_listing 54 = .ok (.aload_n 0, 1) := dk_42 (by decide +kernel)
theorem dX12_listing_55 : decode cX12_listing 55 = .ok (.aload_n 0, 1) := dk_42 (by decide +kernel)
theorem dX12_listing_56 : decode cX12_listing 56 = .ok (.invokevirtual 1045, 3) := dk_182 (by decide +kernel)
theorem dX12_listing_59 : decode cX12_listing 59 = .ok (.putfield 300, 3) := dk_181 (by decide +kernel)
theorem dX12_listing_62 : decode cX12_listing 62 = .ok (.aload_n 0, 1) := dk_42 (by decide +kernel)
theorem dX12_listing_63 : decode cX12_listing 63 = .ok (.getfield 300, 3) := dk_180 (by decide +kernel)
theorem dX12_listing_66 : decode cX12_listing 66 = .ok (.ireturn, 1) := dk_172 (by decide +kernel)
def wsRX12_listing : List Cond := .code yX12_listing cX12_listing 4 (some .int) :: ([.fieldLink RX12 348 "OptimaWorksModel" "thrown" "I", .fieldLink RX12 978 "OptimaWorksModel" "holders" "I", .constantLong RX12 1043 20000, .fieldLink RX12 300 "OptimaWorksModel" "listedMany" "I", .fieldLink RX12 257 "OptimaWorksModel" "domain" "[I"] ++ wsX120 ++ (wsV RX12 1045 RX12 yX12_list wsRX12_list) ++ (va_wsS RX12 1040 yX12_ones wsRonesb))
theorem iwsRX12_listing_in12 : ∀ w ∈ wsX120, w ∈ wsRX12_listing := fun _ h => List.mem_cons_of_mem _ (List.mem_append_left _ (List.mem_append_left _ (List.mem_append_right _ h)))
theorem gwsRX12_listing_0 : GoodIn wsRX12_listing (wsV RX12 1045 RX12 yX12_list wsRX12_list) := goodIn_sub (fun _ h => List.mem_cons_of_mem _ (List.mem_append_left _ (List.mem_append_right _ h))) (gdV (by decide +kernel) gdwsRX12_list)
theorem gwsRX12_listing_1 : GoodIn wsRX12_listing (va_wsS RX12 1040 yX12_ones wsRonesb) := goodIn_sub (fun _ h => List.mem_cons_of_mem _ (List.mem_append_right _ h)) (gdS (by decide +kernel) gdwsRonesb)
theorem gdwsRX12_listing : wsRX12_listing.all goodWord = true := gdC rfl (gdA (gdA (gdA (by decide +kernel : ([.fieldLink RX12 348 "OptimaWorksModel" "thrown" "I", .fieldLink RX12 978 "OptimaWorksModel" "holders" "I", .constantLong RX12 1043 20000, .fieldLink RX12 300 "OptimaWorksModel" "listedMany" "I", .fieldLink RX12 257 "OptimaWorksModel" "domain" "[I"] : List Cond).all goodWord = true) gdwsX120) (gdV (by decide +kernel) gdwsRX12_list)) (gdS (by decide +kernel) gdwsRonesb))
set_option maxHeartbeats 4000000 in
set_option maxRecDepth 100000 in
/-- listing() -/
theorem r_X12_listing (l : Launch) (dC : Nat → ClassId) (dI : Nat → Nat → Nat) (a : Nat → Nat) (k : Nat → ClassId) (h0 : Nat) (vi : Nat → Int32) (vj : Nat → Int64) (vF : Nat → Nat → Int32) (vG : Nat → Nat → Int64) (hn : Nat) (ru : Nat) (hhn : vi 128 = nI hn) (hhn10 : hn ≤ 10) (hru : vi 129 = nI ru) (hru12 : ru ≤ 12) (hRu : RuO (vF 80) (vF 81) (vF 82) (vF 83) hn ru) (hDo : DoO (vF 78) hn) (hLm : LmO (vi 145)) (sz : Nat) : Met l yX12_listing wsRX12_listing ({ frames := 6, cells := 0, slots := 0, locals := 142 }) (va_Pc [.ref h0] (fun U => U.heap.size = sz ∧ va_P (dC, dI) vwCl (WR a k h0 vi vj vF vG) U.heap ∧ va_K (dC, dI) vwCl (tX12 k) U ∧ va_D (fun _ => True) (WR a k h0 vi vj vF vG))) (va_Qi (fun (r : Int32) (u : (Int32) × (Nat → Int32) × (Nat → Int32) × (Nat → Int32) × (Nat → Int32) × (Nat → Int32) × (Nat → Int32)) => (LmO (u.1)) ∧ ((r) = -1 ∨ (r) = (u.1))) (fun (u : (Int32) × (Nat → Int32) × (Nat → Int32) × (Nat → Int32) × (Nat → Int32) × (Nat → Int32) × (Nat → Int32)) t => va_P (dC, dI) vwCl (WR a k h0 (fT (fT vi 0 0) 145 (u.1)) vj (fT (fT (fT (fT (fT (fT vF 90 (u.2.1)) 91 (u.2.2.1)) 86 (u.2.2.2.1)) 87 (u.2.2.2.2.1)) 88 (u.2.2.2.2.2.1)) 89 (u.2.2.2.2.2.2)) vG) t.heap ∧ va_D (va_A (WR a k h0 vi vj vF vG) sz) (WR a k h0 (fT (fT vi 0 0) 145 (u.1)) vj (fT (fT (fT (fT (fT (fT vF 90 (u.2.1)) 91 (u.2.2.1)) 86 (u.2.2.2.1)) 87 (u.2.2.2.2.1)) 88 (u.2.2.2.2.2.1)) 89 (u.2.2.2.2.2.2)) vG)) (va_A (WR a k h0 vi vj vF vG) sz)) 0 0 (va_A (WR a k h0 vi vj vF vG) sz) := by
  refine Met.ofW (cc := cX12_listing) (maxL := 4) (ret := (some .int)) (by decide) rfl ?_
  intro p e s m args below meth c s₁ B hml hv
  obtain ⟨rfl, hsz, hP, hK, hD0⟩ := hv
  have hx := B.exec
  have hb := B.bytes
  have hr := B.returns
  have hts := atoms_spec (ws := wsRX12_listing) B.pre
  have hown : s.vm.findClass RX12 = some m.cls := findClass_of_methodNamed B.named
  have hlocks := B.notSynchronized
  subst hsz
  have hD := hD0.self (sz := s.heap.size)
  generalize hAe : va_A (WR a k h0 vi vj vF vG) s.heap.size = A at hD ⊢
  have hA : ∀ q : Nat, s.heap.size ≤ q → A q := fun q h => by rw [← hAe]; exact Or.inr h
  have hS : va_S A s.heap s.heap [] := va_S.rf
  have hl := lv_entry ([.ref h0]) (n := 4) (Nat.le_of_ble_eq_true rfl)
  rw [lg_entry_eq]
  generalize (lg_sl ([.ref h0]) ++ List.replicate (4 - (lg_sl ([.ref h0])).length) Slot.unset).toArray = ls at hl ⊢
  have hl : lv_has ls 4 [(0, .ref h0)] := hl
  refine lv_aload_n hx hb dX12_listing_0 rfl (lv_at hl 0 rfl) ?_
  refine lv_iconst (v := 0) hx hb dX12_listing_1 (by decide) ?_
  refine va_put (D := (dC, dI)) (ci := 12) (v := .int 0) (ty := .int) (C := RX12) (T := TX12) (N := 163) (fs := fM (vS a vi vj)) hx hb hts iwsRX12_listing_in12 tyX12 tyX12_ok nmX12 hown hK hP hD hS 0 rfl rfl 0 (by decide) (hts (.fieldLink RX12 348 "OptimaWorksModel" "thrown" "I") (by decide +kernel)) (fun _ h9 => h9) rfl (by decide +kernel) rfl rfl (Nat.le_of_ble_eq_true rfl) dX12_listing_2 (fun H locs hP hD hS => ?_)
  have hP : va_P (dC, dI) vwCl (WR a k h0 (fT vi 0 0) vj vF vG) H := by rw [← WR_i 0 _ rfl]; exact hP
  have hD : va_D A (WR a k h0 (fT vi 0 0) vj vF vG) := by rw [← WR_i 0 _ rfl]; exact hD
  refine lv_lconst (v := 1) hx hb dX12_listing_5 (by decide) ?_
  refine lv_lstore_n hx hb dX12_listing_6 rfl hl (by decide) rfl (fun ls (hl : lv_has ls _ ([(1, .long 1), (0, .ref h0)])) => ?_)
  refine lv_iconst (v := 0) hx hb dX12_listing_7 (by decide) ?_
  refine lv_istore_n hx hb dX12_listing_8 rfl hl (by decide) rfl (fun ls (hl : lv_has ls _ ([(3, .int 0), (1, .long 1), (0, .ref h0)])) => ?_)
  have hl : lv_has _ _ ([(0, .ref h0), (1, .long 1), (3, .int (nI 0))]) := lv_sub hl [2, 1, 0] rfl
  refine (fun (loop : ∀ (n9 : Nat) (h5 : Nat) (al : Int64) (H : Heap) (locs : List Loc) (ls : Array Slot), (h5 ≤ hn) →  (hn < h5 + n9) → va_P (dC, dI) vwCl (WR a k h0 (fT vi 0 0) vj vF vG) H → va_D A (WR a k h0 (fT vi 0 0) vj vF vG) → va_S A s.heap H locs → lv_has ls 4 [(0, .ref h0), (1, .long al), (3, .int (nI h5))] → W p l e _ s m _ below meth c H locs 0 0 _ (F0 m 9 ls [])) => loop (hn + 1) 0 1 _ _ _ (by omega) (by omega) hP hD hS hl) ?_
  intro n9
  induction n9 with
  | zero => intro h5 al H locs ls hh5 hf9; exact False.elim (by omega)
  | succ n9 ih9 =>
    intro h5 al H locs ls hh5 hf9 hP hD hS hl
    refine lv_iload_n hx hb dX12_listing_9 rfl (lv_at hl 2 rfl) ?_
    refine lv_aload_n hx hb dX12_listing_10 rfl (lv_at hl 0 rfl) ?_
    refine va_get (D := (dC, dI)) (ci := 12) (v := .int (vi 128)) (C := RX12) (T := TX12) (N := 163) (fs := fM (vS a (fT vi 0 0) vj)) hx hb hts iwsRX12_listing_in12 hown hK hP 0 rfl rfl 128 (by decide) (hts (.fieldLink RX12 978 "OptimaWorksModel" "holders" "I") (by decide +kernel)) (fun _ h9 => h9) rfl dX12_listing_11 ?_
    refine lv_topi (fun y1 hy1 => ?_)
    obtain rfl : (nI hn) = y1 := (hy1.trans (hhn)).symm
    refine lv_icmp_ge (tgt := 36) hx hb dX12_listing_14 (by decide) (fun c_14 => ?_) (fun c_14 => ?_)
    · have t_14 : ((h5 : Nat) : Int) ≥ ((hn : Nat) : Int) := toI_ge c_14 (nI_toInt (by omega)) (nI_toInt (by omega))
      refine lv_lload_n hx hb dX12_listing_36 rfl (lv_at hl 1 rfl) ?_
      refine lv_ldc2 (v := 20000) hx hb hown (hts (.constantLong RX12 1043 20000) (by decide +kernel)) dX12_listing_37 ?_
      refine W.lcmp hx hb dX12_listing_40 ?_
      refine lv_if_le (tgt := 46) hx hb dX12_listing_41 (by decide) (fun c_41 => ?_) (fun c_41 => ?_)
      · have t_41 : (al).toInt ≤ 20000 := toL_le c_41 rfl (by decide)
        refine lv_aload_n hx hb dX12_listing_46 rfl (lv_at hl 0 rfl) ?_
        refine va_get (D := (dC, dI)) (ci := 12) (v := .int (vi 145)) (C := RX12) (T := TX12) (N := 163) (fs := fM (vS a (fT vi 0 0) vj)) hx hb hts iwsRX12_listing_in12 hown hK hP 0 rfl rfl 145 (by decide) (hts (.fieldLink RX12 300 "OptimaWorksModel" "listedMany" "I") (by decide +kernel)) (fun _ h9 => h9) rfl dX12_listing_47 ?_
        refine lv_iconst (v := (-1)) hx hb dX12_listing_50 (by decide) ?_
        refine W.cut (pc := 62) (fun H locs ls stk => ∃ (j1_i145 : Int32) (j1_F90 : Nat → Int32) (j1_F91 : Nat → Int32) (j1_F86 : Nat → Int32) (j1_F87 : Nat → Int32) (j1_F88 : Nat → Int32) (j1_F89 : Nat → Int32), (LmO j1_i145) ∧  stk = [] ∧ va_P (dC, dI) vwCl (WR a k h0 (fT (fT vi 0 0) 145 j1_i145) vj (fT (fT (fT (fT (fT (fT vF 90 j1_F90) 91 j1_F91) 86 j1_F86) 87 j1_F87) 88 j1_F88) 89 j1_F89) vG) H ∧ va_D A (WR a k h0 (fT (fT vi 0 0) 145 j1_i145) vj (fT (fT (fT (fT (fT (fT vF 90 j1_F90) 91 j1_F91) 86 j1_F86) 87 j1_F87) 88 j1_F88) 89 j1_F89) vG) ∧ va_S A s.heap H locs ∧ lv_has ls 4 [(0, .ref h0), (1, .long al), (3, .int (nI h5))]) (fun join1 => ?_) ?_
        · refine lv_icmp_ne (tgt := 62) hx hb dX12_listing_51 (by decide) (fun c_51 => ?_) (fun c_51 => ?_)
          · have t_51 : ((vi 145)).toInt ≠ -1 := toI_ne c_51 rfl (by decide)
            have e9 : fT (fT vi 0 0) 145 (vi 145) = fT vi 0 0 := by funext q9; by_cases h9_0 : q9 = 0; (subst h9_0; exact ((fT_ne _ _ (Nat.ne_of_beq_eq_false rfl)).trans (fT_eq _ _ _)).trans (Eq.trans (by first | rfl | assumption | (symm; assumption) | (subst_vars; rfl)) (fT_eq _ _ _).symm)); by_cases h9_145 : q9 = 145; (subst h9_145; exact (fT_eq _ _ _).trans (Eq.trans (by first | rfl | assumption | (symm; assumption) | (subst_vars; rfl)) (fT_ne _ _ (Nat.ne_of_beq_eq_false rfl)).symm)); exact ((fT_ne _ _ h9_145).trans (fT_ne _ _ h9_0)).trans (fT_ne _ _ h9_0).symm
            have hP : va_P (dC, dI) vwCl (WR a k h0 (fT (fT vi 0 0) 145 (vi 145)) vj vF vG) H := by rw [e9]; exact hP
            have hD : va_D A (WR a k h0 (fT (fT vi 0 0) 145 (vi 145)) vj vF vG) := by rw [e9]; exact hD
            clear e9
            have e9 : fT (fT (fT (fT (fT (fT vF 90 (vF 90)) 91 (vF 91)) 86 (vF 86)) 87 (vF 87)) 88 (vF 88)) 89 (vF 89) = vF := by funext q9; by_cases h9_90 : q9 = 90; (subst h9_90; exact ((fT_ne _ _ (Nat.ne_of_beq_eq_false rfl)).trans ((fT_ne _ _ (Nat.ne_of_beq_eq_false rfl)).trans ((fT_ne _ _ (Nat.ne_of_beq_eq_false rfl)).trans ((fT_ne _ _ (Nat.ne_of_beq_eq_false rfl)).trans ((fT_ne _ _ (Nat.ne_of_beq_eq_false rfl)).trans (fT_eq _ _ _)))))).trans (Eq.trans (by first | rfl | assumption | (symm; assumption) | (subst_vars; rfl)) (Eq.refl _).symm)); by_cases h9_91 : q9 = 91; (subst h9_91; exact ((fT_ne _ _ (Nat.ne_of_beq_eq_false rfl)).trans ((fT_ne _ _ (Nat.ne_of_beq_eq_false rfl)).trans ((fT_ne _ _ (Nat.ne_of_beq_eq_false rfl)).trans ((fT_ne _ _ (Nat.ne_of_beq_eq_false rfl)).trans (fT_eq _ _ _))))).trans (Eq.trans (by first | rfl | assumption | (symm; assumption) | (subst_vars; rfl)) (Eq.refl _).symm)); by_cases h9_86 : q9 = 86; (subst h9_86; exact ((fT_ne _ _ (Nat.ne_of_beq_eq_false rfl)).trans ((fT_ne _ _ (Nat.ne_of_beq_eq_false rfl)).trans ((fT_ne _ _ (Nat.ne_of_beq_eq_false rfl)).trans (fT_eq _ _ _)))).trans (Eq.trans (by first | rfl | assumption | (symm; assumption) | (subst_vars; rfl)) (Eq.refl _).symm)); by_cases h9_87 : q9 = 87; (subst h9_87; exact ((fT_ne _ _ (Nat.ne_of_beq_eq_false rfl)).trans ((fT_ne _ _ (Nat.ne_of_beq_eq_false rfl)).trans (fT_eq _ _ _))).trans (Eq.trans (by first | rfl | assumption | (symm; assumption) | (subst_vars; rfl)) (Eq.refl _).symm)); by_cases h9_88 : q9 = 88; (subst h9_88; exact ((fT_ne _ _ (Nat.ne_of_beq_eq_false rfl)).trans (fT_eq _ _ _)).trans (Eq.trans (by first | rfl | assumption | (symm; assumption) | (subst_vars; rfl)) (Eq.refl _).symm)); by_cases h9_89 : q9 = 89; (subst h9_89; exact (fT_eq _ _ _).trans (Eq.trans (by first | rfl | assumption | (symm; assumption) | (subst_vars; rfl)) (Eq.refl _).symm)); exact ((fT_ne _ _ h9_89).trans ((fT_ne _ _ h9_88).trans ((fT_ne _ _ h9_87).trans ((fT_ne _ _ h9_86).trans ((fT_ne _ _ h9_91).trans (fT_ne _ _ h9_90)))))).trans (Eq.refl _).symm
            have hP : va_P (dC, dI) vwCl (WR a k h0 (fT (fT vi 0 0) 145 (vi 145)) vj (fT (fT (fT (fT (fT (fT vF 90 (vF 90)) 91 (vF 91)) 86 (vF 86)) 87 (vF 87)) 88 (vF 88)) 89 (vF 89)) vG) H := by rw [e9]; exact hP
            have hD : va_D A (WR a k h0 (fT (fT vi 0 0) 145 (vi 145)) vj (fT (fT (fT (fT (fT (fT vF 90 (vF 90)) 91 (vF 91)) 86 (vF 86)) 87 (vF 87)) 88 (vF 88)) 89 (vF 89)) vG) := by rw [e9]; exact hD
            clear e9
            have hl : lv_has _ _ ([(0, .ref h0), (1, .long al), (3, .int (nI h5))]) := lv_sub hl [0, 1, 2] rfl
            exact join1 _ _ _ _ ⟨(vi 145), (vF 90), (vF 91), (vF 86), (vF 87), (vF 88), (vF 89), hLm, rfl, hP, hD, hS, hl⟩
          · have t_51 : ((vi 145)).toInt = -1 := toI_nne c_51 rfl (by decide)
            refine lv_aload_n hx hb dX12_listing_54 rfl (lv_at hl 0 rfl) ?_
            refine lv_aload_n hx hb dX12_listing_55 rfl (lv_at hl 0 rfl) ?_
            have hFc := allFree hD hS hA
            refine va_calli (va_runV (As := []) (rest := [.ref h0]) ⟨hx, hb, hml, hown, hts⟩ (r_X12_list l dC dI a k h0 (fT vi 0 0) vj vF vG hn ru hhn (by first | assumption | decide | omega | rfl) hru (by first | assumption | decide | omega | rfl) (by first | assumption | decide | omega | rfl) H.size) (cwV 0 hts gwsRX12_listing_0 rfl rfl rfl hd_yX12_list_RX12 (by decide +kernel)) (fz_pre (va_recv hK hP (ci := 12) (q0 := 0) rfl rfl) hP hK hD) rfl rfl hl.1 rfl (lv_room (Nat.le_of_ble_eq_true rfl)) dX12_listing_56 (by decide +kernel)) hS (fun q _ h => hFc q h) hFc (fun r56 u t9_ H locs ht hvm hw9 hB9 hz1 hk1 hS => ?_)
            obtain ⟨ln56, g9056, g9156, g8656, g8756, g8856, g8956⟩ := u
            try dsimp only at hw9 hB9
            have hP : va_P (dC, dI) vwCl (WR a k h0 (fT vi 0 0) vj (fT (fT (fT (fT (fT (fT vF 90 g9056) 91 g9156) 86 g8656) 87 g8756) 88 g8856) 89 g8956) vG) H := fz_P ht hB9.1
            have hD : va_D A (WR a k h0 (fT vi 0 0) vj (fT (fT (fT (fT (fT (fT vF 90 g9056) 91 g9156) 86 g8656) 87 g8756) 88 g8856) 89 g8956) vG) := hB9.2.weaken (fun _ q _ h => hFc q.1 h)
            obtain ⟨rfl, f56_0⟩ := hw9
            refine va_put (D := (dC, dI)) (ci := 12) (v := .int (nI ln56)) (ty := .int) (C := RX12) (T := TX12) (N := 163) (fs := fM (vS a (fT vi 0 0) vj)) hx hb hts iwsRX12_listing_in12 tyX12 tyX12_ok nmX12 hown hK hP hD hS 0 rfl rfl 145 (by decide) (hts (.fieldLink RX12 300 "OptimaWorksModel" "listedMany" "I") (by decide +kernel)) (fun _ h9 => h9) rfl (by decide +kernel) rfl rfl (Nat.le_of_ble_eq_true rfl) dX12_listing_59 (fun H locs hP hD hS => ?_)
            have hP : va_P (dC, dI) vwCl (WR a k h0 (fT (fT vi 0 0) 145 (nI ln56)) vj (fT (fT (fT (fT (fT (fT vF 90 g9056) 91 g9156) 86 g8656) 87 g8756) 88 g8856) 89 g8956) vG) H := by rw [← WR_i 145 _ rfl]; exact hP
            have hD : va_D A (WR a k h0 (fT (fT vi 0 0) 145 (nI ln56)) vj (fT (fT (fT (fT (fT (fT vF 90 g9056) 91 g9156) 86 g8656) 87 g8756) 88 g8856) 89 g8956) vG) := by rw [← WR_i 145 _ rfl]; exact hD
            have hl : lv_has _ _ ([(0, .ref h0), (1, .long al), (3, .int (nI h5))]) := lv_sub hl [0, 1, 2] rfl
            exact join1 _ _ _ _ ⟨(nI ln56), g9056, g9156, g8656, g8756, g8856, g8956, Or.inr ⟨_, f56_0, rfl⟩, rfl, hP, hD, hS, hl⟩
        · rintro H locs ls stk ⟨j1_i145, j1_F90, j1_F91, j1_F86, j1_F87, j1_F88, j1_F89, hlm, rfl, hP, hD, hS, hl⟩
          refine lv_aload_n hx hb dX12_listing_62 rfl (lv_at hl 0 rfl) ?_
          refine va_get (D := (dC, dI)) (ci := 12) (v := .int j1_i145) (C := RX12) (T := TX12) (N := 163) (fs := fM (vS a (fT (fT vi 0 0) 145 j1_i145) vj)) hx hb hts iwsRX12_listing_in12 hown hK hP 0 rfl rfl 145 (by decide) (hts (.fieldLink RX12 300 "OptimaWorksModel" "listedMany" "I") (by decide +kernel)) (fun _ h9 => h9) rfl dX12_listing_63 ?_
          refine W.widen (k := 0) (n := 0) (by decide +kernel) (by decide +kernel) ?_
          exact W.iret (v := j1_i145) hx hb hr (fun t9_ ht hW => ⟨⟨j1_i145, (j1_i145, j1_F90, j1_F91, j1_F86, j1_F87, j1_F88, j1_F89), rfl, by (try dsimp only); exact ⟨hlm, Or.inr rfl⟩, by rw [ht]; exact hP, hD⟩, hS.F ht⟩) hS.2.2 dX12_listing_66
      · have t_41 : ¬ (al).toInt ≤ 20000 := toL_nle c_41 rfl (by decide)
        refine lv_iconst (v := (-1)) hx hb dX12_listing_44 (by decide) ?_
        refine W.widen (k := 0) (n := 0) (by decide +kernel) (by decide +kernel) ?_
        have e9 : fT (fT vi 0 0) 145 (vi 145) = fT vi 0 0 := fT_id _ _ (fT_ne _ _ (Nat.ne_of_beq_eq_false rfl))
        have hP : va_P (dC, dI) vwCl (WR a k h0 (fT (fT vi 0 0) 145 (vi 145)) vj vF vG) H := by rw [e9]; exact hP
        have hD : va_D A (WR a k h0 (fT (fT vi 0 0) 145 (vi 145)) vj vF vG) := by rw [e9]; exact hD
        clear e9
        have e9 : fT (fT (fT (fT (fT (fT vF 90 (vF 90)) 91 (vF 91)) 86 (vF 86)) 87 (vF 87)) 88 (vF 88)) 89 (vF 89) = vF := (fT_id _ _ ((fT_ne _ _ (Nat.ne_of_beq_eq_false rfl)).trans ((fT_ne _ _ (Nat.ne_of_beq_eq_false rfl)).trans ((fT_ne _ _ (Nat.ne_of_beq_eq_false rfl)).trans ((fT_ne _ _ (Nat.ne_of_beq_eq_false rfl)).trans (fT_ne _ _ (Nat.ne_of_beq_eq_false rfl))))))).trans ((fT_id _ _ ((fT_ne _ _ (Nat.ne_of_beq_eq_false rfl)).trans ((fT_ne _ _ (Nat.ne_of_beq_eq_false rfl)).trans ((fT_ne _ _ (Nat.ne_of_beq_eq_false rfl)).trans (fT_ne _ _ (Nat.ne_of_beq_eq_false rfl)))))).trans ((fT_id _ _ ((fT_ne _ _ (Nat.ne_of_beq_eq_false rfl)).trans ((fT_ne _ _ (Nat.ne_of_beq_eq_false rfl)).trans (fT_ne _ _ (Nat.ne_of_beq_eq_false rfl))))).trans ((fT_id _ _ ((fT_ne _ _ (Nat.ne_of_beq_eq_false rfl)).trans (fT_ne _ _ (Nat.ne_of_beq_eq_false rfl)))).trans ((fT_id _ _ (fT_ne _ _ (Nat.ne_of_beq_eq_false rfl))).trans (fT_id _ _ (rfl))))))
        have hP : va_P (dC, dI) vwCl (WR a k h0 (fT (fT vi 0 0) 145 (vi 145)) vj (fT (fT (fT (fT (fT (fT vF 90 (vF 90)) 91 (vF 91)) 86 (vF 86)) 87 (vF 87)) 88 (vF 88)) 89 (vF 89)) vG) H := by rw [e9]; exact hP
        have hD : va_D A (WR a k h0 (fT (fT vi 0 0) 145 (vi 145)) vj (fT (fT (fT (fT (fT (fT vF 90 (vF 90)) 91 (vF 91)) 86 (vF 86)) 87 (vF 87)) 88 (vF 88)) 89 (vF 89)) vG) := by rw [e9]; exact hD
        clear e9
        exact W.iret (v := (-1)) hx hb hr (fun t9_ ht hW => ⟨⟨(-1), ((vi 145), (vF 90), (vF 91), (vF 86), (vF 87), (vF 88), (vF 89)), rfl, by (try dsimp only); exact ⟨hLm, Or.inl rfl⟩, by rw [ht]; exact hP, hD⟩, hS.F ht⟩) hS.2.2 dX12_listing_45
    · have t_14 : ¬ ((h5 : Nat) : Int) ≥ ((hn : Nat) : Int) := toI_nge c_14 (nI_toInt (by omega)) (nI_toInt (by omega))
      refine lv_lload_n hx hb dX12_listing_17 rfl (lv_at hl 1 rfl) ?_
      refine lv_aload_n hx hb dX12_listing_18 rfl (lv_at hl 0 rfl) ?_
      refine va_get (D := (dC, dI)) (ci := 12) (v := .ref (a 78)) (C := RX12) (T := TX12) (N := 163) (fs := fM (vS a (fT vi 0 0) vj)) hx hb hts iwsRX12_listing_in12 hown hK hP 0 rfl rfl 130 (by decide) (hts (.fieldLink RX12 257 "OptimaWorksModel" "domain" "[I") (by decide +kernel)) (fun _ h9 => h9) rfl dX12_listing_19 ?_
      refine lv_iload_n hx hb dX12_listing_22 rfl (lv_at hl 2 rfl) ?_
      refine va_iald (cA := k 78) (n := 10) (f := (vF 78)) hx hb hK hP 79 78 (WR_get 78 (by decide)) (TR_get 78 (by decide)) (vp_in_nI (show h5 < 10 by omega) (by omega)) dX12_listing_23 ?_
      refine lv_topi (fun y2 hy2 => ?_)
      obtain rfl : ((vF 78) h5) = y2 := (hy2.trans (by rw [nI_clamp (by omega)])).symm
      obtain ⟨b5, hb5, eb5⟩ := hDo h5 (by omega)
      refine lv_topi (fun y3 hy3 => ?_)
      obtain rfl : (nI b5) = y3 := (hy3.trans (eb5)).symm
      have hFc := noneFree hS hA
      refine va_calli (va_runS (As := [.int (nI b5)]) (rest := [.long al]) ⟨hx, hb, hml, hown, hts⟩ (r_X12_onesb l dC dI b5 (by first | assumption | decide | omega | rfl) H.size) (va_cwS 1 hts gwsRX12_listing_1 rfl rfl rfl (by decide +kernel) ⟨by decide +kernel, by decide +kernel⟩) ⟨fun a U g mk q => by obtain ⟨q0, q1, qP, qK, qD⟩ := q; exact ⟨q0, q1, qP, va_K.moved (u := U) (U := U.calling g mk a) (Vm.Alike.refl U.vm) qK, qD⟩, fun U hU9 hW => ⟨rfl, by rw [hU9], by rw [hU9]; exact nilP, va_K.moved hW.alike (hK.sub (tys' := []) [] rfl), nilD⟩⟩ rfl rfl hl.1 rfl (lv_room (Nat.le_of_ble_eq_true rfl)) dX12_listing_24 (by decide +kernel)) hS (fun q _ h => hFc q h) hFc (fun r24 u t9_ H1 locs ht hvm hw9 hB9 hz1 hk1 hS => ?_)
      have hP := keepAll hP hk1
      clear hB9
      generalize H1 = H at hP hS ⊢
      have hP : va_P (dC, dI) vwCl (WR a k h0 (fT vi 0 0) vj vF vG) H := hP
      have hD : va_D A (WR a k h0 (fT vi 0 0) vj vF vG) := hD
      refine lv_i2l hx hb dX12_listing_27 rfl ?_
      refine lv_lmul hx hb dX12_listing_28 ?_
      refine lv_lstore_n hx hb dX12_listing_29 rfl hl (by decide) rfl (fun ls (hl : lv_has ls _ ([(1, .long (al * (r24).toInt64)), (0, .ref h0), (3, .int (nI h5))])) => ?_)
      refine lv_iinc (v := (nI (h5 + 1))) hx hb dX12_listing_30 hl (k := 2) rfl (nI_add h5 1) (by decide) rfl (fun ls (hl : lv_has ls _ ([(3, .int (nI (h5 + 1))), (1, .long (al * (r24).toInt64)), (0, .ref h0)])) => ?_)
      refine lv_goto (tgt := 9) hx hb dX12_listing_33 (by decide) ?_
      have hl : lv_has _ _ ([(0, .ref h0), (1, .long (al * (r24).toInt64)), (3, .int (nI (h5 + 1)))]) := lv_sub hl [2, 1, 0] rfl
      exact ih9 (h5 + 1) (al * (r24).toInt64) _ _ _ (by omega) (by omega) hP hD hS hl
theorem dX12_listed_0 : decode cX12_listed 0 = .ok (.aload_n 0, 1) := dk_42 (by decide +kernel)
theorem dX12_listed_1 : decode cX12_listed 1 = .ok (.iconst 0, 1) := dk_3 (by decide +kernel)
theorem dX12_listed_2 : decode cX12_listed 2 = .ok (.putfield 348, 3) := dk_181 (by decide +kernel)
theorem dX12_listed_5 : decode cX12_listed 5 = .ok (.aload_n 0, 1) := dk_42 (by decide +kernel)
theorem dX12_listed_6 : decode cX12_listed 6 = .ok (.iload_n 2, 1) := dk_28 (by decide +kernel)
theorem dX12_listed_7 : decode cX12_listed 7 = .ok (.invokevirtual 984, 3) := dk_182 (by decide +kernel)
theorem dX12_listed_10 : decode cX12_listed 10 = .ok (.ifCond .eq 15, 3) := dk_153 (by decide +kernel)
theorem dX12_listed_13 : decode cX12_listed 13 = .ok (.iload_n 1, 1) := dk_27 (by decide +kernel)
theorem dX12_listed_14 : decode cX12_listed 14 = .ok (.ifCond .lt 11, 3) := dk_155 (by decide +kernel)
theorem dX12_listed_17 : decode cX12_listed 17 = .ok (.iload_n 1, 1) := dk_27 (by decide +kernel)
theorem dX12_listed_18 : decode cX12_listed 18 = .ok (.aload_n 0, 1) := dk_42 (by decide +kernel)
theorem dX12_listed_19 : decode cX12_listed 19 = .ok (.invokevirtual 1048, 3) := dk_182 (by decide +kernel)
theorem dX12_listed_22 : decode cX12_listed 22 = .ok (.if_icmp .lt 7, 3) := dk_161 (by decide +kernel)
theorem dX12_listed_25 : decode cX12_listed 25 = .ok (.iconst (-1), 1) := dk_2 (by decide +kernel)
theorem dX12_listed_26 : decode cX12_listed 26 = .ok (.goto 14, 3) := dk_167 (by decide +kernel)
theorem dX12_listed_29 : decode cX12_listed 29 = .ok (.aload_n 0, 1) := dk_42 (by decide +kernel)
theorem dX12_listed_30 : decode cX12_listed 30 = .ok (.getfield 297, 3) := dk_180 (by decide +kernel)
theorem dX12_listed_33 : decode cX12_listed 33 = .ok (.bipush 10, 2) := dk_16 (by decide +kernel)
theorem dX12_listed_35 : decode cX12_listed 35 = .ok (.iload_n 1, 1) := dk_27 (by decide +kernel)
theorem dX12_listed_36 : decode cX12_listed 36 = .ok (.imul, 1) := dk_104 (by decide +kernel)
theorem dX12_listed_37 : decode cX12_listed 37 = .ok (.iload_n 2, 1) := dk_28 (by decide +kernel)
theorem dX12_listed_38 : decode cX12_listed 38 = .ok (.iadd, 1) := dk_96 (by decide +kernel)
theorem dX12_listed_39 : decode cX12_listed 39 = .ok (.iaload, 1) := dk_46 (by decide +kernel)
theorem dX12_listed_40 : decode cX12_listed 40 = .ok (.ireturn, 1) := dk_172 (by decide +kernel)
def wsRX12_listed : List Cond := .code yX12_listed cX12_listed 3 (some .int) :: ([.fieldLink RX12 348 "OptimaWorksModel" "thrown" "I", .fieldLink RX12 297 "OptimaWorksModel" "listedRow" "[I"] ++ wsX120 ++ (wsV RX12 984 RX12 yX12_isHolder wsRX12_isHolder) ++ (wsV RX12 1048 RX12 yX12_listing wsRX12_listing))
theorem iwsRX12_listed_in12 : ∀ w ∈ wsX120, w ∈ wsRX12_listed := fun _ h => List.mem_cons_of_mem _ (List.mem_append_left _ (List.mem_append_left _ (List.mem_append_right _ h)))
theorem gwsRX12_listed_0 : GoodIn wsRX12_listed (wsV RX12 984 RX12 yX12_isHolder wsRX12_isHolder) := goodIn_sub (fun _ h => List.mem_cons_of_mem _ (List.mem_append_left _ (List.mem_append_right _ h))) (gdV (by decide +kernel) gdwsRX12_isHolder)
theorem gwsRX12_listed_1 : GoodIn wsRX12_listed (wsV RX12 1048 RX12 yX12_listing wsRX12_listing) := goodIn_sub (fun _ h => List.mem_cons_of_mem _ (List.mem_append_right _ h)) (gdV (by decide +kernel) gdwsRX12_listing)
theorem gdwsRX12_listed : wsRX12_listed.all goodWord = true := gdC rfl (gdA (gdA (gdA (by decide +kernel : ([.fieldLink RX12 348 "OptimaWorksModel" "thrown" "I", .fieldLink RX12 297 "OptimaWorksModel" "listedRow" "[I"] : List Cond).all goodWord = true) gdwsX120) (gdV (by decide +kernel) gdwsRX12_isHolder)) (gdV (by decide +kernel) gdwsRX12_listing))
set_option maxHeartbeats 4000000 in
set_option maxRecDepth 100000 in
/-- listed(k, h) -/
theorem r_X12_listed (l : Launch) (dC : Nat → ClassId) (dI : Nat → Nat → Nat) (a : Nat → Nat) (k : Nat → ClassId) (h0 : Nat) (vi : Nat → Int32) (vj : Nat → Int64) (vF : Nat → Nat → Int32) (vG : Nat → Nat → Int64) (kI : Int32) (hI : Int32) (hn : Nat) (ru : Nat) (hhn : vi 128 = nI hn) (hhn10 : hn ≤ 10) (hru : vi 129 = nI ru) (hru12 : ru ≤ 12) (hRu : RuO (vF 80) (vF 81) (vF 82) (vF 83) hn ru) (hDo : DoO (vF 78) hn) (hLm : LmO (vi 145)) (sz : Nat) : Met l yX12_listed wsRX12_listed ({ frames := 7, cells := 0, slots := 0, locals := 165 }) (va_Pc [.ref h0, .int kI, .int hI] (fun U => U.heap.size = sz ∧ va_P (dC, dI) vwCl (WR a k h0 vi vj vF vG) U.heap ∧ va_K (dC, dI) vwCl (tX12 k) U ∧ va_D (fun _ => True) (WR a k h0 vi vj vF vG))) (va_Qi (fun (r : Int32) (u : (Int32) × (Nat → Int32) × (Nat → Int32) × (Nat → Int32) × (Nat → Int32) × (Nat → Int32) × (Nat → Int32)) => (LmO (u.1))) (fun (u : (Int32) × (Nat → Int32) × (Nat → Int32) × (Nat → Int32) × (Nat → Int32) × (Nat → Int32) × (Nat → Int32)) t => va_P (dC, dI) vwCl (WR a k h0 (fT (fT vi 0 0) 145 (u.1)) vj (fT (fT (fT (fT (fT (fT vF 90 (u.2.1)) 91 (u.2.2.1)) 86 (u.2.2.2.1)) 87 (u.2.2.2.2.1)) 88 (u.2.2.2.2.2.1)) 89 (u.2.2.2.2.2.2)) vG) t.heap ∧ va_D (va_A (WR a k h0 vi vj vF vG) sz) (WR a k h0 (fT (fT vi 0 0) 145 (u.1)) vj (fT (fT (fT (fT (fT (fT vF 90 (u.2.1)) 91 (u.2.2.1)) 86 (u.2.2.2.1)) 87 (u.2.2.2.2.1)) 88 (u.2.2.2.2.2.1)) 89 (u.2.2.2.2.2.2)) vG)) (va_A (WR a k h0 vi vj vF vG) sz)) 0 0 (va_A (WR a k h0 vi vj vF vG) sz) := by
  refine Met.ofW (cc := cX12_listed) (maxL := 3) (ret := (some .int)) (by decide) rfl ?_
  intro p e s m args below meth c s₁ B hml hv
  obtain ⟨rfl, hsz, hP, hK, hD0⟩ := hv
  have hx := B.exec
  have hb := B.bytes
  have hr := B.returns
  have hts := atoms_spec (ws := wsRX12_listed) B.pre
  have hown : s.vm.findClass RX12 = some m.cls := findClass_of_methodNamed B.named
  have hlocks := B.notSynchronized
  subst hsz
  have hD := hD0.self (sz := s.heap.size)
  generalize hAe : va_A (WR a k h0 vi vj vF vG) s.heap.size = A at hD ⊢
  have hA : ∀ q : Nat, s.heap.size ≤ q → A q := fun q h => by rw [← hAe]; exact Or.inr h
  have hS : va_S A s.heap s.heap [] := va_S.rf
  have hl := lv_entry ([.ref h0, .int kI, .int hI]) (n := 3) (Nat.le_of_ble_eq_true rfl)
  rw [lg_entry_eq]
  generalize (lg_sl ([.ref h0, .int kI, .int hI]) ++ List.replicate (3 - (lg_sl ([.ref h0, .int kI, .int hI])).length) Slot.unset).toArray = ls at hl ⊢
  have hl : lv_has ls 3 [(0, .ref h0), (1, .int kI), (2, .int hI)] := hl
  refine lv_aload_n hx hb dX12_listed_0 rfl (lv_at hl 0 rfl) ?_
  refine lv_iconst (v := 0) hx hb dX12_listed_1 (by decide) ?_
  refine va_put (D := (dC, dI)) (ci := 12) (v := .int 0) (ty := .int) (C := RX12) (T := TX12) (N := 163) (fs := fM (vS a vi vj)) hx hb hts iwsRX12_listed_in12 tyX12 tyX12_ok nmX12 hown hK hP hD hS 0 rfl rfl 0 (by decide) (hts (.fieldLink RX12 348 "OptimaWorksModel" "thrown" "I") (by decide +kernel)) (fun _ h9 => h9) rfl (by decide +kernel) rfl rfl (Nat.le_of_ble_eq_true rfl) dX12_listed_2 (fun H locs hP hD hS => ?_)
  have hP : va_P (dC, dI) vwCl (WR a k h0 (fT vi 0 0) vj vF vG) H := by rw [← WR_i 0 _ rfl]; exact hP
  have hD : va_D A (WR a k h0 (fT vi 0 0) vj vF vG) := by rw [← WR_i 0 _ rfl]; exact hD
  refine lv_aload_n hx hb dX12_listed_5 rfl (lv_at hl 0 rfl) ?_
  refine lv_iload_n hx hb dX12_listed_6 rfl (lv_at hl 2 rfl) ?_
  have hFc := allFree hD hS hA
  refine va_calli (va_runV (As := [.int hI]) (rest := []) ⟨hx, hb, hml, hown, hts⟩ (r_X12_isHolder l dC dI a k h0 (fT vi 0 0) vj vF vG hI hn hhn (by first | assumption | decide | omega | rfl) H.size) (cwV 1 hts gwsRX12_listed_0 rfl rfl rfl hd_yX12_isHolder_RX12 (by decide +kernel)) (fz_pre (va_recv hK hP (ci := 12) (q0 := 0) rfl rfl) hP hK hD) rfl rfl hl.1 rfl (lv_room (Nat.le_of_ble_eq_true rfl)) dX12_listed_7 (by decide +kernel)) hS (fun q _ h => hFc q h) hFc (fun r7 u t9_ H locs ht hvm hw9 hB9 hz1 hk1 hS => ?_)
  have hP : va_P (dC, dI) vwCl (WR a k h0 (fT vi 0 0) vj vF vG) H := fz_P ht hB9.1
  have hD : va_D A (WR a k h0 (fT vi 0 0) vj vF vG) := hB9.2.weaken (fun _ q _ h => hFc q.1 h)
  rcases hw9 with ⟨rfl, f7_0, f7_1⟩ | ⟨rfl, f7_0⟩
  · refine lv_if_eq (tgt := 25) hx hb dX12_listed_10 (by decide) (fun c9 => absurd c9 (by decide)) (fun _ => ?_)
    obtain ⟨x5, hx5, ex5⟩ := f7_0
    subst ex5
    refine lv_iload_n hx hb dX12_listed_13 rfl (lv_at hl 1 rfl) ?_
    refine lv_if_lt (tgt := 25) hx hb dX12_listed_14 (by decide) (fun c_14 => ?_) (fun c_14 => ?_)
    · have t_14 : (kI).toInt < 0 := toI_lt c_14 rfl (by decide)
      refine lv_iconst (v := (-1)) hx hb dX12_listed_25 (by decide) ?_
      refine lv_goto (tgt := 40) hx hb dX12_listed_26 (by decide) ?_
      refine W.widen (k := 0) (n := 0) (by decide +kernel) (by decide +kernel) ?_
      have e9 : fT (fT vi 0 0) 145 (vi 145) = fT vi 0 0 := fT_id _ _ (fT_ne _ _ (Nat.ne_of_beq_eq_false rfl))
      have hP : va_P (dC, dI) vwCl (WR a k h0 (fT (fT vi 0 0) 145 (vi 145)) vj vF vG) H := by rw [e9]; exact hP
      have hD : va_D A (WR a k h0 (fT (fT vi 0 0) 145 (vi 145)) vj vF vG) := by rw [e9]; exact hD
      clear e9
      have e9 : fT (fT (fT (fT (fT (fT vF 90 (vF 90)) 91 (vF 91)) 86 (vF 86)) 87 (vF 87)) 88 (vF 88)) 89 (vF 89) = vF := (fT_id _ _ ((fT_ne _ _ (Nat.ne_of_beq_eq_false rfl)).trans ((fT_ne _ _ (Nat.ne_of_beq_eq_false rfl)).trans ((fT_ne _ _ (Nat.ne_of_beq_eq_false rfl)).trans ((fT_ne _ _ (Nat.ne_of_beq_eq_false rfl)).trans (fT_ne _ _ (Nat.ne_of_beq_eq_false rfl))))))).trans ((fT_id _ _ ((fT_ne _ _ (Nat.ne_of_beq_eq_false rfl)).trans ((fT_ne _ _ (Nat.ne_of_beq_eq_false rfl)).trans ((fT_ne _ _ (Nat.ne_of_beq_eq_false rfl)).trans (fT_ne _ _ (Nat.ne_of_beq_eq_false rfl)))))).trans ((fT_id _ _ ((fT_ne _ _ (Nat.ne_of_beq_eq_false rfl)).trans ((fT_ne _ _ (Nat.ne_of_beq_eq_false rfl)).trans (fT_ne _ _ (Nat.ne_of_beq_eq_false rfl))))).trans ((fT_id _ _ ((fT_ne _ _ (Nat.ne_of_beq_eq_false rfl)).trans (fT_ne _ _ (Nat.ne_of_beq_eq_false rfl)))).trans ((fT_id _ _ (fT_ne _ _ (Nat.ne_of_beq_eq_false rfl))).trans (fT_id _ _ (rfl))))))
      have hP : va_P (dC, dI) vwCl (WR a k h0 (fT (fT vi 0 0) 145 (vi 145)) vj (fT (fT (fT (fT (fT (fT vF 90 (vF 90)) 91 (vF 91)) 86 (vF 86)) 87 (vF 87)) 88 (vF 88)) 89 (vF 89)) vG) H := by rw [e9]; exact hP
      have hD : va_D A (WR a k h0 (fT (fT vi 0 0) 145 (vi 145)) vj (fT (fT (fT (fT (fT (fT vF 90 (vF 90)) 91 (vF 91)) 86 (vF 86)) 87 (vF 87)) 88 (vF 88)) 89 (vF 89)) vG) := by rw [e9]; exact hD
      clear e9
      exact W.iret (v := (-1)) hx hb hr (fun t9_ ht hW => ⟨⟨(-1), ((vi 145), (vF 90), (vF 91), (vF 86), (vF 87), (vF 88), (vF 89)), rfl, by (try dsimp only); exact hLm, by rw [ht]; exact hP, hD⟩, hS.F ht⟩) hS.2.2 dX12_listed_40
    · have t_14 : ¬ (kI).toInt < 0 := toI_nlt c_14 rfl (by decide)
      refine lv_iload_n hx hb dX12_listed_17 rfl (lv_at hl 1 rfl) ?_
      refine lv_aload_n hx hb dX12_listed_18 rfl (lv_at hl 0 rfl) ?_
      have hFc := allFree hD hS hA
      refine va_calli (va_runV (As := []) (rest := [.int kI]) ⟨hx, hb, hml, hown, hts⟩ (r_X12_listing l dC dI a k h0 (fT vi 0 0) vj vF vG hn ru hhn (by first | assumption | decide | omega | rfl) hru (by first | assumption | decide | omega | rfl) (by first | assumption | decide | omega | rfl) (by first | assumption | decide | omega | rfl) (by first | assumption | decide | omega | rfl) H.size) (cwV 0 hts gwsRX12_listed_1 rfl rfl rfl hd_yX12_listing_RX12 (by decide +kernel)) (fz_pre (va_recv hK hP (ci := 12) (q0 := 0) rfl rfl) hP hK hD) rfl rfl hl.1 rfl (lv_room (Nat.le_of_ble_eq_true rfl)) dX12_listed_19 (by decide +kernel)) hS (fun q _ h => hFc q h) hFc (fun r19 u t9_ H locs ht hvm hw9 hB9 hz1 hk1 hS => ?_)
      obtain ⟨lm19, g9019, g9119, g8619, g8719, g8819, g8919⟩ := u
      try dsimp only at hw9 hB9
      have hP : va_P (dC, dI) vwCl (WR a k h0 (fT (fT (fT vi 0 0) 0 0) 145 lm19) vj (fT (fT (fT (fT (fT (fT vF 90 g9019) 91 g9119) 86 g8619) 87 g8719) 88 g8819) 89 g8919) vG) H := fz_P ht hB9.1
      have hD : va_D A (WR a k h0 (fT (fT (fT vi 0 0) 0 0) 145 lm19) vj (fT (fT (fT (fT (fT (fT vF 90 g9019) 91 g9119) 86 g8619) 87 g8719) 88 g8819) 89 g8919) vG) := hB9.2.weaken (fun _ q _ h => hFc q.1 h)
      have e9 : fT (fT vi 0 0) 145 lm19 = fT (fT (fT vi 0 0) 0 0) 145 lm19 := (congrArg (fun g9 => fT g9 145 lm19) (fT_sm _ _ _ _)).symm
      rw [← e9] at hP hD
      clear e9
      have hP : va_P (dC, dI) vwCl (WR a k h0 (fT (fT vi 0 0) 145 lm19) vj (fT (fT (fT (fT (fT (fT vF 90 g9019) 91 g9119) 86 g8619) 87 g8719) 88 g8819) 89 g8919) vG) H := hP
      have hD : va_D A (WR a k h0 (fT (fT vi 0 0) 145 lm19) vj (fT (fT (fT (fT (fT (fT vF 90 g9019) 91 g9119) 86 g8619) 87 g8719) 88 g8819) 89 g8919) vG) := hD
      obtain ⟨f19_0, f19_1⟩ := hw9
      refine lv_icmp_lt (tgt := 29) hx hb dX12_listed_22 (by decide) (fun c_22 => ?_) (fun c_22 => ?_)
      · have t_22 : (kI).toInt < (r19).toInt := toI_lt c_22 rfl rfl
        have hk5 : (kI).toInt < 5000 := by rcases f19_1 with h9 | h9; (rw [h9] at t_22; (have h8 : ((-1 : Int32)).toInt = -1 := by decide); omega); (rcases f19_0 with h8 | ⟨l5, h7, h6⟩; (rw [h9, h8] at t_22; (have h5 : ((-1 : Int32)).toInt = -1 := by decide); omega); (rw [h9, h6, nI_toInt (by omega)] at t_22; omega))
        obtain ⟨kn, h_kn, rfl⟩ := of_toInt (x := kI) (k := 5000) (by omega) (by omega)
        have e_kn : (nI kn).toInt = (kn : Int) := nI_toInt (by omega)
        refine lv_aload_n hx hb dX12_listed_29 rfl (lv_at hl 0 rfl) ?_
        refine va_get (D := (dC, dI)) (ci := 12) (v := .ref (a 91)) (C := RX12) (T := TX12) (N := 163) (fs := fM (vS a (fT (fT vi 0 0) 145 lm19) vj)) hx hb hts iwsRX12_listed_in12 hown hK hP 0 rfl rfl 144 (by decide) (hts (.fieldLink RX12 297 "OptimaWorksModel" "listedRow" "[I") (by decide +kernel)) (fun _ h9 => h9) rfl dX12_listed_30 ?_
        refine lv_bipush (v := 10) hx hb dX12_listed_33 (by decide) ?_
        refine lv_iload_n hx hb dX12_listed_35 rfl (lv_at hl 1 rfl) ?_
        refine lv_imul hx hb dX12_listed_36 ?_
        refine lv_topi (fun y1 hy1 => ?_)
        obtain rfl : (nI (10 * kn)) = y1 := (hy1.trans (pk_mul 10 kn)).symm
        refine lv_iload_n hx hb dX12_listed_37 rfl (lv_at hl 2 rfl) ?_
        refine lv_iadd hx hb dX12_listed_38 ?_
        refine lv_topi (fun y2 hy2 => ?_)
        obtain rfl : (nI ((10 * kn) + x5)) = y2 := (hy2.trans (nI_add (10 * kn) x5)).symm
        refine va_iald (cA := k 91) (n := 50000) (f := g9119) hx hb hK hP 92 91 (WR_get 91 (by decide)) (TR_get 91 (by decide)) (vp_in_nI (show ((10 * kn) + x5) < 50000 by omega) (by omega)) dX12_listed_39 ?_
        refine lv_topi (fun y3 hy3 => ?_)
        obtain rfl : (g9119 ((10 * kn) + x5)) = y3 := (hy3.trans (by rw [nI_clamp (by omega)])).symm
        refine W.widen (k := 0) (n := 0) (by decide +kernel) (by decide +kernel) ?_
        exact W.iret (v := (g9119 ((10 * kn) + x5))) hx hb hr (fun t9_ ht hW => ⟨⟨(g9119 ((10 * kn) + x5)), (lm19, g9019, g9119, g8619, g8719, g8819, g8919), rfl, by (try dsimp only); exact f19_0, by rw [ht]; exact hP, hD⟩, hS.F ht⟩) hS.2.2 dX12_listed_40
      · have t_22 : ¬ (kI).toInt < (r19).toInt := toI_nlt c_22 rfl rfl
        refine lv_iconst (v := (-1)) hx hb dX12_listed_25 (by decide) ?_
        refine lv_goto (tgt := 40) hx hb dX12_listed_26 (by decide) ?_
        refine W.widen (k := 0) (n := 0) (by decide +kernel) (by decide +kernel) ?_
        exact W.iret (v := (-1)) hx hb hr (fun t9_ ht hW => ⟨⟨(-1), (lm19, g9019, g9119, g8619, g8719, g8819, g8919), rfl, by (try dsimp only); exact f19_0, by rw [ht]; exact hP, hD⟩, hS.F ht⟩) hS.2.2 dX12_listed_40
  · refine lv_if_eq (tgt := 25) hx hb dX12_listed_10 (by decide) (fun _ => ?_) (fun c9 => absurd (by decide) c9)
    refine lv_iconst (v := (-1)) hx hb dX12_listed_25 (by decide) ?_
    refine lv_goto (tgt := 40) hx hb dX12_listed_26 (by decide) ?_
    refine W.widen (k := 0) (n := 0) (by decide +kernel) (by decide +kernel) ?_
    have e9 : fT (fT vi 0 0) 145 (vi 145) = fT vi 0 0 := fT_id _ _ (fT_ne _ _ (Nat.ne_of_beq_eq_false rfl))
    have hP : va_P (dC, dI) vwCl (WR a k h0 (fT (fT vi 0 0) 145 (vi 145)) vj vF vG) H := by rw [e9]; exact hP
    have hD : va_D A (WR a k h0 (fT (fT vi 0 0) 145 (vi 145)) vj vF vG) := by rw [e9]; exact hD
    clear e9
    have e9 : fT (fT (fT (fT (fT (fT vF 90 (vF 90)) 91 (vF 91)) 86 (vF 86)) 87 (vF 87)) 88 (vF 88)) 89 (vF 89) = vF := (fT_id _ _ ((fT_ne _ _ (Nat.ne_of_beq_eq_false rfl)).trans ((fT_ne _ _ (Nat.ne_of_beq_eq_false rfl)).trans ((fT_ne _ _ (Nat.ne_of_beq_eq_false rfl)).trans ((fT_ne _ _ (Nat.ne_of_beq_eq_false rfl)).trans (fT_ne _ _ (Nat.ne_of_beq_eq_false rfl))))))).trans ((fT_id _ _ ((fT_ne _ _ (Nat.ne_of_beq_eq_false rfl)).trans ((fT_ne _ _ (Nat.ne_of_beq_eq_false rfl)).trans ((fT_ne _ _ (Nat.ne_of_beq_eq_false rfl)).trans (fT_ne _ _ (Nat.ne_of_beq_eq_false rfl)))))).trans ((fT_id _ _ ((fT_ne _ _ (Nat.ne_of_beq_eq_false rfl)).trans ((fT_ne _ _ (Nat.ne_of_beq_eq_false rfl)).trans (fT_ne _ _ (Nat.ne_of_beq_eq_false rfl))))).trans ((fT_id _ _ ((fT_ne _ _ (Nat.ne_of_beq_eq_false rfl)).trans (fT_ne _ _ (Nat.ne_of_beq_eq_false rfl)))).trans ((fT_id _ _ (fT_ne _ _ (Nat.ne_of_beq_eq_false rfl))).trans (fT_id _ _ (rfl))))))
    have hP : va_P (dC, dI) vwCl (WR a k h0 (fT (fT vi 0 0) 145 (vi 145)) vj (fT (fT (fT (fT (fT (fT vF 90 (vF 90)) 91 (vF 91)) 86 (vF 86)) 87 (vF 87)) 88 (vF 88)) 89 (vF 89)) vG) H := by rw [e9]; exact hP
    have hD : va_D A (WR a k h0 (fT (fT vi 0 0) 145 (vi 145)) vj (fT (fT (fT (fT (fT (fT vF 90 (vF 90)) 91 (vF 91)) 86 (vF 86)) 87 (vF 87)) 88 (vF 88)) 89 (vF 89)) vG) := by rw [e9]; exact hD
    clear e9
    exact W.iret (v := (-1)) hx hb hr (fun t9_ ht hW => ⟨⟨(-1), ((vi 145), (vF 90), (vF 91), (vF 86), (vF 87), (vF 88), (vF 89)), rfl, by (try dsimp only); exact hLm, by rw [ht]; exact hP, hD⟩, hS.F ht⟩) hS.2.2 dX12_listed_40
theorem dX12_isPlace_0 : decode cX12_isPlace 0 = .ok (.iload_n 0, 1) := dk_26 (by decide +kernel)
theorem dX12_isPlace_1 : decode cX12_isPlace 1 = .ok (.ifCond .lt 13, 3) := dk_155 (by decide +kernel)
theorem dX12_isPlace_4 : decode cX12_isPlace 4 = .ok (.iload_n 0, 1) := dk_26 (by decide +kernel)
theorem dX12_isPlace_5 : decode cX12_isPlace 5 = .ok (.bipush 12, 2) := dk_16 (by decide +kernel)
theorem dX12_isPlace_7 : decode cX12_isPlace 7 = .ok (.if_icmp .ge 7, 3) := dk_162 (by decide +kernel)
theorem dX12_isPlace_10 : decode cX12_isPlace 10 = .ok (.iconst 1, 1) := dk_4 (by decide +kernel)
theorem dX12_isPlace_11 : decode cX12_isPlace 11 = .ok (.goto 4, 3) := dk_167 (by decide +kernel)
theorem dX12_isPlace_14 : decode cX12_isPlace 14 = .ok (.iconst 0, 1) := dk_3 (by decide +kernel)
theorem dX12_isPlace_15 : decode cX12_isPlace 15 = .ok (.ireturn, 1) := dk_172 (by decide +kernel)
def wsRX12_isPlace : List Cond := .code yX12_isPlace cX12_isPlace 1 (some .boolean) :: ([])
theorem gdwsRX12_isPlace : wsRX12_isPlace.all goodWord = true := gdC rfl (by decide +kernel : ([] : List Cond).all goodWord = true)
set_option maxHeartbeats 4000000 in
set_option maxRecDepth 100000 in
/-- isPlace(n) -/
theorem r_X12_isPlace (l : Launch) (dC : Nat → ClassId) (dI : Nat → Nat → Nat) (nv : Int32) (sz : Nat) : Met l yX12_isPlace wsRX12_isPlace ({ frames := 0, cells := 0, slots := 0, locals := 0 }) (va_Pc [.int nv] (fun U => U.heap.size = sz ∧ va_P (dC, dI) vwCl [] U.heap ∧ va_K (dC, dI) vwCl [] U ∧ va_D (fun _ => True) [])) (va_Qi (fun (r : Int32) (u : Unit) => (r = 1 ∧ (0 ≤ (nv).toInt ∧ (nv).toInt < 12)) ∨ (r = 0 ∧ (¬ (0 ≤ (nv).toInt ∧ (nv).toInt < 12)))) (fun (u : Unit) t => True) (va_A [] sz)) 0 0 (va_A [] sz) := by
  refine Met.ofW (cc := cX12_isPlace) (maxL := 1) (ret := (some .boolean)) (by decide) rfl ?_
  intro p e s m args below meth c s₁ B hml hv
  obtain ⟨rfl, hsz, hP, hK, hD0⟩ := hv
  have hx := B.exec
  have hb := B.bytes
  have hr := B.returns
  have hts := atoms_spec (ws := wsRX12_isPlace) B.pre
  have hown : s.vm.findClass RX12 = some m.cls := findClass_of_methodNamed B.named
  have hlocks := B.notSynchronized
  subst hsz
  have hD := hD0.self (sz := s.heap.size)
  generalize hAe : va_A [] s.heap.size = A at hD ⊢
  have hA : ∀ q : Nat, s.heap.size ≤ q → A q := fun q h => by rw [← hAe]; exact Or.inr h
  have hS : va_S A s.heap s.heap [] := va_S.rf
  have hl := lv_entry ([.int nv]) (n := 1) (Nat.le_of_ble_eq_true rfl)
  rw [lg_entry_eq]
  generalize (lg_sl ([.int nv]) ++ List.replicate (1 - (lg_sl ([.int nv])).length) Slot.unset).toArray = ls at hl ⊢
  have hl : lv_has ls 1 [(0, .int nv)] := hl
  refine lv_iload_n hx hb dX12_isPlace_0 rfl (lv_at hl 0 rfl) ?_
  refine lv_if_lt (tgt := 14) hx hb dX12_isPlace_1 (by decide) (fun c_1 => ?_) (fun c_1 => ?_)
  · have t_1 : (nv).toInt < 0 := toI_lt c_1 rfl (by decide)
    refine lv_iconst (v := 0) hx hb dX12_isPlace_14 (by decide) ?_
    refine W.widen (k := 0) (n := 0) (by decide +kernel) (by decide +kernel) ?_
    exact W.zret (v := 0) hx hb hr rfl (fun t9_ ht hW => ⟨⟨0, (), rfl, by (try dsimp only); exact Or.inr ⟨rfl, by omega⟩, trivial⟩, hS.F ht⟩) hS.2.2 dX12_isPlace_15
  · have t_1 : ¬ (nv).toInt < 0 := toI_nlt c_1 rfl (by decide)
    refine lv_iload_n hx hb dX12_isPlace_4 rfl (lv_at hl 0 rfl) ?_
    refine lv_bipush (v := 12) hx hb dX12_isPlace_5 (by decide) ?_
    refine lv_icmp_ge (tgt := 14) hx hb dX12_isPlace_7 (by decide) (fun c_7 => ?_) (fun c_7 => ?_)
    · have t_7 : (nv).toInt ≥ 12 := toI_ge c_7 rfl (by decide)
      refine lv_iconst (v := 0) hx hb dX12_isPlace_14 (by decide) ?_
      refine W.widen (k := 0) (n := 0) (by decide +kernel) (by decide +kernel) ?_
      exact W.zret (v := 0) hx hb hr rfl (fun t9_ ht hW => ⟨⟨0, (), rfl, by (try dsimp only); exact Or.inr ⟨rfl, by omega⟩, trivial⟩, hS.F ht⟩) hS.2.2 dX12_isPlace_15
    · have t_7 : ¬ (nv).toInt ≥ 12 := toI_nge c_7 rfl (by decide)
      refine lv_iconst (v := 1) hx hb dX12_isPlace_10 (by decide) ?_
      refine lv_goto (tgt := 15) hx hb dX12_isPlace_11 (by decide) ?_
      refine W.widen (k := 0) (n := 0) (by decide +kernel) (by decide +kernel) ?_
      exact W.zret (v := 1) hx hb hr rfl (fun t9_ ht hW => ⟨⟨1, (), rfl, by (try dsimp only); exact Or.inl ⟨rfl, by omega⟩, trivial⟩, hS.F ht⟩) hS.2.2 dX12_isPlace_15
